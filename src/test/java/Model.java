import java.util.ArrayList;
import java.util.Arrays;
import java.util.Comparator;
import java.util.List;
import java.util.NoSuchElementException;
import java.util.TreeMap;
import java.util.TreeSet;

/**
 * The document told once more, as slowly and plainly as can be: every answer is found anew from all that happened.
 * It shares no code and no way of counting with the program, so that a slip in one shows as a difference.
 */
final class Model {
    static final class Club {
        int division;
        int ground;
        int grade;
        long money = 1000;
        int taken;
        boolean struck;
    }

    static final class Player {
        int owner;
        int trainer;
        int lentTo = -1;

        int at() {
            return lentTo >= 0 ? lentTo : owner;
        }
    }

    static final class Match {
        int[] club = new int[2];
        int day;
        char state = 'p';
        List<TreeSet<Integer>> named = List.of(new TreeSet<>(), new TreeSet<>());
        List<TreeSet<Integer>> came = List.of(new TreeSet<>(), new TreeSet<>());
        List<TreeSet<Integer>> field = List.of(new TreeSet<>(), new TreeSet<>());
        int[] goals = new int[2];
        int[] changes = new int[2];
        int fault = -1;

        boolean over() {
            return state == 'f' || state == 'a';
        }

        boolean tookPart(int player) {
            return named.get(0).contains(player) || named.get(1).contains(player)
                || came.get(0).contains(player) || came.get(1).contains(player);
        }
    }

    static final class Card {
        Match match;
        int player;
        boolean red;
        boolean cancelled;
    }

    /** Something in the order of the calls. */
    static final class Happening {
        char kind; // 'e' one player enters, 'o' a match is over, 'w' a wipe
        Match match;
        int side;
        int player;
        boolean fits;
        TreeSet<Integer> idle = new TreeSet<>();
    }

    /** What follows from all that happened. */
    static final class Outcome {
        int[] bans = new int[24];
        int[] yellows = new int[24];
        List<Match> guiltyMatches = new ArrayList<>();
        List<Integer> guiltySides = new ArrayList<>();
        List<Boolean> entries = new ArrayList<>();

        boolean guilty(Match match, int side) {
            for (int i = 0; i < guiltyMatches.size(); i++) {
                if (guiltyMatches.get(i) == match && guiltySides.get(i) == side) {
                    return true;
                }
            }
            return false;
        }
    }

    final List<Club> clubs = new ArrayList<>();
    final List<Player> players = new ArrayList<>();
    final List<Match> matches = new ArrayList<>();
    final List<Card> cards = new ArrayList<>();
    final List<Happening> past = new ArrayList<>();
    final TreeSet<String> derbies = new TreeSet<>();
    int day;
    int from = 1;
    int to = 0;
    Match on;
    private Outcome known;

    private Outcome outcome() {
        if (known != null) {
            return known;
        }
        Outcome out = new Outcome();
        for (Happening h : past) {
            if (h.kind == 'e') {
                boolean eligible = h.fits && out.bans[h.player] == 0;
                out.entries.add(eligible);
                if (!eligible) {
                    out.guiltyMatches.add(h.match);
                    out.guiltySides.add(h.side);
                }
            } else if (h.kind == 'w') {
                out.yellows = new int[24];
            } else {
                for (int p : h.idle) {
                    out.bans[p] = Math.max(0, out.bans[p] - 1);
                }
                for (int p = 0; p < 24; p++) {
                    int reds = 0;
                    int yellow = 0;
                    for (Card c : cards) {
                        if (c.match == h.match && c.player == p && !c.cancelled) {
                            reds += c.red ? 1 : 0;
                            yellow += c.red ? 0 : 1;
                        }
                    }
                    if (reds > 0) {
                        out.bans[p] += 3;
                    } else if (yellow == 2) {
                        out.bans[p] += 1;
                    } else if (yellow == 1 && ++out.yellows[p] % 3 == 0) {
                        out.bans[p] += 1;
                    }
                }
            }
        }
        known = out;
        return out;
    }

    private void happens(Happening h) {
        past.add(h);
        known = null;
    }

    private void club(int number) {
        if (number < 0 || number >= clubs.size()) {
            throw new IndexOutOfBoundsException();
        }
    }

    private void player(int number) {
        if (number < 0 || number >= players.size()) {
            throw new IndexOutOfBoundsException();
        }
    }

    private Match match(int number) {
        if (number < 0 || number >= matches.size()) {
            throw new IndexOutOfBoundsException();
        }
        return matches.get(number);
    }

    private boolean window() {
        return from <= day && day <= to;
    }

    private List<Integer> in(int division) {
        List<Integer> list = new ArrayList<>();
        for (int c = 0; c < clubs.size(); c++) {
            if (clubs.get(c).division == division) {
                list.add(c);
            }
        }
        return list;
    }

    int addClub(int division, int ground, int grade) {
        if (division < 0 || division > 1 || ground < 0 || ground > 7 || grade < 0 || grade > 3) {
            throw new IllegalArgumentException();
        }
        if (in(division).size() == 4) {
            throw new IllegalStateException();
        }
        Club c = new Club();
        c.division = division;
        c.ground = ground;
        c.grade = grade;
        clubs.add(c);
        return clubs.size() - 1;
    }

    int addPlayer(int club) {
        club(club);
        if (players.size() == 24) {
            throw new IllegalStateException();
        }
        Player p = new Player();
        p.owner = club;
        p.trainer = club;
        players.add(p);
        return players.size() - 1;
    }

    boolean setWindow(int first, int last) {
        if (first < 0 || first > 9999 || last < 0 || last > 9999) {
            throw new IllegalArgumentException();
        }
        from = first;
        to = last;
        return window();
    }

    int goOn(int days) {
        if (days < 1 || days > 99) {
            throw new IllegalArgumentException();
        }
        if (on != null) {
            throw new IllegalStateException();
        }
        return day += days;
    }

    int sell(int player, int club, int fee) {
        player(player);
        club(club);
        Player p = players.get(player);
        if (fee < 0 || fee > 9999 || p.owner == club) {
            throw new IllegalArgumentException();
        }
        if (!window() || p.lentTo >= 0 || clubs.get(club).money < fee) {
            throw new UnsupportedOperationException();
        }
        clubs.get(club).money -= fee;
        if (p.trainer != p.owner && p.trainer != club) {
            int share = (fee - fee % 20) / 20;
            clubs.get(p.trainer).money += share;
            fee -= share;
        }
        clubs.get(p.owner).money += fee;
        p.owner = club;
        return (int) clubs.get(club).money;
    }

    int lend(int player, int club) {
        player(player);
        club(club);
        Player p = players.get(player);
        if (p.owner == club) {
            throw new IllegalArgumentException();
        }
        if (!window() || p.lentTo >= 0) {
            throw new UnsupportedOperationException();
        }
        p.lentTo = club;
        return p.owner;
    }

    int callBack(int player) {
        player(player);
        Player p = players.get(player);
        if (!window() || p.lentTo < 0) {
            throw new UnsupportedOperationException();
        }
        int was = p.lentTo;
        p.lentTo = -1;
        return was;
    }

    private String pair(int a, int b) {
        return Math.min(a, b) + "-" + Math.max(a, b);
    }

    boolean setDerby(int club, int other, boolean is) {
        club(club);
        club(other);
        if (club == other) {
            throw new IllegalArgumentException();
        }
        boolean was = derbies.contains(pair(club, other));
        if (is) {
            derbies.add(pair(club, other));
        } else {
            derbies.remove(pair(club, other));
        }
        return was;
    }

    int plan(int division) {
        if (division != 0 && division != 1) {
            throw new IllegalArgumentException();
        }
        List<Integer> teams = in(division);
        for (Match m : matches) {
            if (teams.contains(m.club[0])) {
                throw new IllegalStateException();
            }
        }
        if (teams.size() < 2) {
            throw new IllegalStateException();
        }
        List<int[]> pairs = new ArrayList<>();
        for (int home : teams) {
            for (int away : teams) {
                if (home != away) {
                    pairs.add(new int[] {home, away});
                }
            }
        }
        int days = teams.size() % 2 == 0 ? 2 * teams.size() - 2 : 2 * teams.size();
        int[] dayOf = new int[pairs.size()];
        Arrays.fill(dayOf, -1);
        best = null;
        fillDay(pairs, dayOf, 0, days);
        if (best == null) {
            throw new NoSuchElementException();
        }
        for (int i = 0; i < pairs.size(); i++) {
            Match m = new Match();
            m.club = pairs.get(i);
            m.day = day + 1 + best[i];
            matches.add(m);
        }
        return pairs.size();
    }

    private int[] best;

    /** Fills day after day with every set of matches that can be on it, and keeps the first of all plans. */
    private void fillDay(List<int[]> pairs, int[] dayOf, int at, int days) {
        if (at == days) {
            for (int d : dayOf) {
                if (d < 0) {
                    return;
                }
            }
            if (best == null || Arrays.compare(dayOf, best) < 0) {
                best = dayOf.clone();
            }
            return;
        }
        addToDay(pairs, dayOf, 0, at, days);
    }

    private void addToDay(List<int[]> pairs, int[] dayOf, int next, int at, int days) {
        for (int i = next; i < pairs.size(); i++) {
            if (dayOf[i] < 0 && fits(pairs, dayOf, i, at)) {
                dayOf[i] = at;
                addToDay(pairs, dayOf, i + 1, at, days);
                dayOf[i] = -1;
            }
        }
        // Leaving a day emptier than it must be cannot help: count what the days that are left can hold.
        int open = 0;
        for (int d : dayOf) {
            open += d < 0 ? 1 : 0;
        }
        int clubsHere = pairs.size() == 12 ? 2 : 1;
        if (open <= (days - at - 1) * clubsHere) {
            fillDay(pairs, dayOf, at + 1, days);
        }
    }

    private boolean fits(List<int[]> pairs, int[] dayOf, int pair, int at) {
        int[] mine = pairs.get(pair);
        for (int i = 0; i < dayOf.length; i++) {
            if (dayOf[i] == at && i != pair) {
                int[] other = pairs.get(i);
                boolean club = mine[0] == other[0] || mine[0] == other[1] || mine[1] == other[0] || mine[1] == other[1];
                boolean ground = clubs.get(mine[0]).ground == clubs.get(other[0]).ground;
                boolean derby = derbies.contains(pair(mine[0], mine[1])) && derbies.contains(pair(other[0], other[1]));
                if (club || ground || derby) {
                    return false;
                }
            }
        }
        return true;
    }

    int putOff(int fixture, int later) {
        Match m = match(fixture);
        if (later <= m.day || later <= day) {
            throw new IllegalArgumentException();
        }
        if (m.state != 'p') {
            throw new UnsupportedOperationException();
        }
        for (Match o : matches) {
            if (o != m && !o.over() && o.day == later) {
                TreeSet<Integer> both = new TreeSet<>(List.of(m.club[0], m.club[1]));
                boolean club = both.contains(o.club[0]) || both.contains(o.club[1]);
                if (club || clubs.get(o.club[0]).ground == clubs.get(m.club[0]).ground) {
                    throw new UnsupportedOperationException();
                }
            }
        }
        int was = m.day;
        m.day = later;
        return was;
    }

    int fixture(int fixture, char what) {
        Match m = match(fixture);
        switch (what) {
            case 'h': return m.club[0];
            case 'a': return m.club[1];
            case 'd': return m.day;
            default: throw new IllegalArgumentException();
        }
    }

    char stateOf(int fixture) {
        return match(fixture).state;
    }

    int name(int fixture, boolean isHome, int player) {
        Match m = match(fixture);
        player(player);
        if (m.state != 'p') {
            throw new UnsupportedOperationException();
        }
        if (m.tookPart(player)) {
            throw new IllegalArgumentException();
        }
        TreeSet<Integer> names = m.named.get(isHome ? 0 : 1);
        if (names.size() == 5) {
            throw new IllegalStateException();
        }
        names.add(player);
        return names.size();
    }

    private void enters(Match m, int side, int player) {
        Player p = players.get(player);
        boolean isHere = p.at() == m.club[side];
        boolean isLentByOther = p.lentTo >= 0 && p.owner == m.club[1 - side];
        Happening h = new Happening();
        h.kind = 'e';
        h.match = m;
        h.side = side;
        h.player = player;
        h.fits = isHere && !isLentByOther;
        happens(h);
        m.field.get(side).add(player);
    }

    int kickOff(int fixture) {
        Match m = match(fixture);
        if (m.state != 'p' || m.day != day || m.named.get(0).isEmpty() || m.named.get(1).isEmpty()) {
            throw new UnsupportedOperationException();
        }
        if (on != null) {
            throw new IllegalStateException();
        }
        int before = outcome().entries.size();
        m.state = 'k';
        on = m;
        for (int side = 0; side < 2; side++) {
            for (int p : m.named.get(side)) {
                enters(m, side, p);
            }
        }
        int wrong = 0;
        for (boolean eligible : outcome().entries.subList(before, outcome().entries.size())) {
            wrong += eligible ? 0 : 1;
        }
        return wrong;
    }

    private int sideOnField(int player) {
        for (int side = 0; side < 2; side++) {
            if (on.field.get(side).contains(player)) {
                return side;
            }
        }
        return -1;
    }

    private void needsMatch() {
        if (on == null) {
            throw new IllegalStateException();
        }
    }

    int goal(int player) {
        player(player);
        needsMatch();
        int side = sideOnField(player);
        if (side < 0 || on.goals[side] == 9) {
            throw new UnsupportedOperationException();
        }
        on.goals[side]++;
        return on.goals[0] * 10 + on.goals[1];
    }

    int card(int player, boolean isRed) {
        player(player);
        needsMatch();
        int side = sideOnField(player);
        if (side < 0) {
            throw new UnsupportedOperationException();
        }
        Card c = new Card();
        c.match = on;
        c.player = player;
        c.red = isRed;
        cards.add(c);
        int yellow = 0;
        for (Card o : cards) {
            yellow += o.match == on && o.player == player && !o.red ? 1 : 0;
        }
        if (isRed || yellow == 2) {
            on.field.get(side).remove(player);
        }
        return cards.size() - 1;
    }

    int change(int out, int in) {
        player(out);
        player(in);
        needsMatch();
        int side = sideOnField(out);
        if (side < 0 || on.tookPart(in) || on.changes[side] == 3) {
            throw new UnsupportedOperationException();
        }
        on.field.get(side).remove(out);
        on.came.get(side).add(in);
        enters(on, side, in);
        return ++on.changes[side];
    }

    private void over(char state) {
        needsMatch();
        Happening h = new Happening();
        h.kind = 'o';
        h.match = on;
        for (int p = 0; p < players.size(); p++) {
            int at = players.get(p).at();
            if ((at == on.club[0] || at == on.club[1]) && !on.tookPart(p)) {
                h.idle.add(p);
            }
        }
        on.state = state;
        on = null;
        happens(h);
    }

    int end() {
        Match m = on;
        over('f');
        return m.goals[0] * 10 + m.goals[1];
    }

    int abandon(boolean isHome) {
        Match m = on;
        over('a');
        m.fault = isHome ? 0 : 1;
        return matches.indexOf(m);
    }

    boolean appeal(int card, boolean isCancelled) {
        if (card < 0 || card >= cards.size()) {
            throw new IndexOutOfBoundsException();
        }
        boolean was = cards.get(card).cancelled;
        cards.get(card).cancelled = isCancelled;
        known = null;
        return was;
    }

    int wipe() {
        if (on != null) {
            throw new IllegalStateException();
        }
        int had = 0;
        for (int y : outcome().yellows) {
            had += y > 0 ? 1 : 0;
        }
        Happening h = new Happening();
        h.kind = 'w';
        happens(h);
        return had;
    }

    int ban(int player) {
        player(player);
        return outcome().bans[player];
    }

    int yellows(int player) {
        player(player);
        return outcome().yellows[player];
    }

    boolean isGuilty(int fixture, boolean isHome) {
        Match m = match(fixture);
        if (m.state == 'p') {
            throw new UnsupportedOperationException();
        }
        return outcome().guilty(m, isHome ? 0 : 1);
    }

    /** Goals of both sides and points of both sides. */
    private int[] counted(Match m) {
        boolean home = m.fault == 0 || outcome().guilty(m, 0);
        boolean away = m.fault == 1 || outcome().guilty(m, 1);
        if (home && away) {
            return new int[] {0, 0, 0, 0};
        }
        if (home) {
            return new int[] {0, 3, 0, 3};
        }
        if (away) {
            return new int[] {3, 0, 3, 0};
        }
        int h = m.goals[0];
        int a = m.goals[1];
        return new int[] {h, a, h > a ? 3 : h == a ? 1 : 0, a > h ? 3 : h == a ? 1 : 0};
    }

    int resultOf(int fixture) {
        Match m = match(fixture);
        if (!m.over()) {
            throw new UnsupportedOperationException();
        }
        int[] c = counted(m);
        return c[0] * 10 + c[1];
    }

    int takePoints(int club, int points) {
        club(club);
        if (points < 1 || points > 30) {
            throw new IllegalArgumentException();
        }
        return clubs.get(club).taken += points;
    }

    boolean strike(int club, boolean is) {
        club(club);
        if (on != null) {
            throw new IllegalStateException();
        }
        boolean was = clubs.get(club).struck;
        clubs.get(club).struck = is;
        return was;
    }

    /** Points, goals less those against, goals of a club in matches with these alone. */
    private int[] among(List<Integer> these, int club) {
        int[] sum = new int[3];
        for (Match m : matches) {
            if (m.over() && these.contains(m.club[0]) && these.contains(m.club[1])) {
                int[] c = counted(m);
                for (int side = 0; side < 2; side++) {
                    if (m.club[side] == club) {
                        sum[0] += c[2 + side];
                        sum[1] += c[side] - c[1 - side];
                        sum[2] += c[side];
                    }
                }
            }
        }
        return sum;
    }

    private List<Integer> standing(int division) {
        List<Integer> list = in(division);
        list.removeIf(c -> clubs.get(c).struck);
        return list;
    }

    private List<Integer> parted(List<Integer> tied, List<Integer> all) {
        if (tied.size() < 2) {
            return tied;
        }
        TreeMap<Integer, TreeMap<Integer, List<Integer>>> groups = new TreeMap<>(Comparator.reverseOrder());
        for (int c : tied) {
            int[] sum = among(tied, c);
            groups.computeIfAbsent(sum[0], k -> new TreeMap<>(Comparator.reverseOrder()))
                .computeIfAbsent(sum[1], k -> new ArrayList<>()).add(c);
        }
        List<Integer> order = new ArrayList<>();
        for (TreeMap<Integer, List<Integer>> byDifference : groups.values()) {
            for (List<Integer> alike : byDifference.values()) {
                if (alike.size() < tied.size()) {
                    order.addAll(parted(alike, all));
                } else {
                    List<Integer> last = new ArrayList<>(alike);
                    last.sort((a, b) -> {
                        int[] x = among(all, a);
                        int[] y = among(all, b);
                        return x[1] != y[1] ? y[1] - x[1] : x[2] != y[2] ? y[2] - x[2] : a - b;
                    });
                    order.addAll(last);
                }
            }
        }
        return order;
    }

    private List<Integer> table(int division) {
        List<Integer> all = standing(division);
        TreeMap<Integer, List<Integer>> byPoints = new TreeMap<>(Comparator.reverseOrder());
        for (int c : all) {
            byPoints.computeIfAbsent(points(c), k -> new ArrayList<>()).add(c);
        }
        List<Integer> order = new ArrayList<>();
        for (List<Integer> tied : byPoints.values()) {
            order.addAll(parted(tied, all));
        }
        for (int c : in(division)) {
            if (clubs.get(c).struck) {
                order.add(c);
            }
        }
        return order;
    }

    int clubAt(int division, int place) {
        if (division != 0 && division != 1) {
            throw new IllegalArgumentException();
        }
        if (place < 0 || place >= in(division).size()) {
            throw new IndexOutOfBoundsException();
        }
        return table(division).get(place);
    }

    int points(int club) {
        club(club);
        Club c = clubs.get(club);
        return c.struck ? 0 : among(standing(c.division), club)[0] - c.taken;
    }

    int divisionOf(int club) {
        club(club);
        return clubs.get(club).division;
    }

    int registered(int player) {
        player(player);
        return players.get(player).at();
    }

    int endSeason() {
        for (Match m : matches) {
            if (!m.over() && !clubs.get(m.club[0]).struck && !clubs.get(m.club[1]).struck) {
                throw new IllegalStateException();
            }
        }
        List<Integer> upper = table(0);
        int up = -1;
        for (int c : table(1)) {
            if (up < 0 && !clubs.get(c).struck && clubs.get(c).grade >= 2) {
                up = c;
            }
        }
        if (up >= 0) {
            clubs.get(up).division = 0;
            if (!upper.isEmpty()) {
                clubs.get(upper.get(upper.size() - 1)).division = 1;
            }
        }
        matches.clear();
        on = null;
        for (Club c : clubs) {
            c.taken = 0;
            c.struck = false;
        }
        Happening h = new Happening();
        h.kind = 'w';
        happens(h);
        return up;
    }

    long money() {
        return 1000L * clubs.size();
    }

    private int overCount() {
        int n = 0;
        for (Match m : matches) {
            n += m.over() ? 1 : 0;
        }
        return n;
    }

    float overShare() {
        if (matches.isEmpty()) {
            throw new ArithmeticException();
        }
        return (float) overCount() / (float) matches.size();
    }

    double meanGoals() {
        if (overCount() == 0) {
            throw new ArithmeticException();
        }
        int sum = 0;
        for (Match m : matches) {
            if (m.over()) {
                sum += counted(m)[0] + counted(m)[1];
            }
        }
        return (double) sum / (double) overCount();
    }

    /** Nothing is kept here that could differ from what is found anew. */
    boolean isSound() {
        return true;
    }
}
