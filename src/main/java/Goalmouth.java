import java.util.ArrayList;
import java.util.Arrays;
import java.util.NoSuchElementException;

/** Football of a small federation, as ../shared/DOC.md promises it. */
public final class Goalmouth {
    private static final int DIVISIONS = 2;
    private static final int MOST_IN_DIVISION = 4;
    private static final int MOST_PLAYERS = 24;
    private static final int MOST_NAMED = 5;
    private static final int MOST_CHANGES = 3;
    private static final int MOST_GOALS = 9;
    private static final int MOST_PAIRS = 12;
    private static final int MOST_PLAN_DAYS = 6;
    private static final int MOST_CARDS = 512;
    private static final int MOST_EVENTS = 1024;

    private static final int LAST_GROUND = 7;
    private static final int LAST_GRADE = 3;
    private static final int GRADE_TO_RISE = 2;
    private static final int LAST_WINDOW_DAY = 9999;
    private static final int MOST_DAYS_BY = 99;
    private static final int MOST_FEE = 9999;
    private static final int MOST_TAKEN = 30;
    private static final int FIRST_MONEY = 1000;
    private static final int TRAINING_PART = 20;

    private static final int POINTS_WON = 3;
    private static final int POINTS_DRAWN = 1;
    private static final int GOALS_BY_RULE = 3;
    private static final int BAN_OF_RED = 3;
    private static final int YELLOWS_TO_BAN = 3;
    // Goals of a season stay far below this, so two numbers can share one key.
    private static final int KEY_STEP = 1000;

    private static final char PLANNED = 'p';
    private static final char ON = 'k';
    private static final char FULL = 'f';
    private static final char ABANDONED = 'a';

    private static final int ENTRY = 0;
    private static final int OVER = 1;
    private static final int WIPE = 2;

    private final ArrayList<Club> clubs;
    private final ArrayList<Player> players;
    private final ArrayList<Fixture> fixtures;
    private final Book book;
    private final Planner planner;
    private final Table table;
    private int today;
    private int windowFrom;
    private int windowTo;
    private Fixture matchOn;

    public Goalmouth() {
        clubs = new ArrayList<Club>();
        players = new ArrayList<Player>();
        fixtures = new ArrayList<Fixture>();
        book = new Book();
        planner = new Planner();
        table = new Table();
        today = 0;
        // A window that ends before it begins holds no day.
        windowFrom = 1;
        windowTo = 0;
        matchOn = null;
    }

    // ---- clubs, players, days ----

    public int addClub(int division, int ground, int grade) throws IllegalArgumentException, IllegalStateException {
        if (!isDivision(division) || !isWithin(ground, 0, LAST_GROUND) || !isWithin(grade, 0, LAST_GRADE)) {
            throw new IllegalArgumentException("a number is out of range");
        }
        if (clubsIn(division) >= MOST_IN_DIVISION) {
            throw new IllegalStateException("the division is full");
        }
        Club club = new Club(clubs.size(), division, ground, grade);
        clubs.add(club);
        return club.number;
    }

    public int addPlayer(int club) throws IndexOutOfBoundsException, IllegalStateException {
        Club trainer = knownClub(club);
        if (players.size() >= MOST_PLAYERS) {
            throw new IllegalStateException("there are as many players as can be");
        }
        players.add(new Player(trainer));
        return players.size() - 1;
    }

    public boolean setWindow(int from, int to) throws IllegalArgumentException {
        if (!isWithin(from, 0, LAST_WINDOW_DAY) || !isWithin(to, 0, LAST_WINDOW_DAY)) {
            throw new IllegalArgumentException("a day is out of range");
        }
        windowFrom = from;
        windowTo = to;
        return isWindowOpen();
    }

    public int goOn(int days) throws IllegalArgumentException, IllegalStateException {
        if (!isWithin(days, 1, MOST_DAYS_BY)) {
            throw new IllegalArgumentException("the days are out of range");
        }
        if (matchOn != null) {
            throw new IllegalStateException("a match is on");
        }
        today += days;
        return today;
    }

    // ---- deals ----

    public int sell(int player, int club, int fee) throws IndexOutOfBoundsException, IllegalArgumentException, UnsupportedOperationException {
        Player sold = knownPlayer(player);
        Club buyer = knownClub(club);
        if (!isWithin(fee, 0, MOST_FEE) || sold.owner == buyer) {
            throw new IllegalArgumentException("no such deal");
        }
        if (!isWindowOpen() || sold.isLent() || buyer.money < fee) {
            throw new UnsupportedOperationException("the deal cannot be done");
        }
        pay(sold, buyer, fee);
        sold.owner = buyer;
        sold.at = buyer;
        return buyer.money;
    }

    private static void pay(Player sold, Club buyer, int fee) {
        Club seller = sold.owner;
        Club trainer = sold.trainer;
        int part = trainer == seller || trainer == buyer ? 0 : fee / TRAINING_PART;
        buyer.money -= fee;
        trainer.money += part;
        seller.money += fee - part;
    }

    public int lend(int player, int club) throws IndexOutOfBoundsException, IllegalArgumentException, UnsupportedOperationException {
        Player lent = knownPlayer(player);
        Club taker = knownClub(club);
        if (lent.owner == taker) {
            throw new IllegalArgumentException("the player is of this club");
        }
        if (!isWindowOpen() || lent.isLent()) {
            throw new UnsupportedOperationException("the player cannot be lent");
        }
        lent.at = taker;
        return lent.owner.number;
    }

    public int callBack(int player) throws IndexOutOfBoundsException, UnsupportedOperationException {
        Player lent = knownPlayer(player);
        if (!isWindowOpen() || !lent.isLent()) {
            throw new UnsupportedOperationException("the player cannot be called back");
        }
        int before = lent.at.number;
        lent.at = lent.owner;
        return before;
    }

    // ---- fixtures ----

    public boolean setDerby(int club, int other, boolean is) throws IndexOutOfBoundsException, IllegalArgumentException {
        Club one = knownClub(club);
        Club two = knownClub(other);
        if (one == two) {
            throw new IllegalArgumentException("both clubs are the same");
        }
        boolean was = one.isRivalOf(two);
        one.setRival(two, is);
        two.setRival(one, is);
        return was;
    }

    public int plan(int division) throws IllegalArgumentException, IllegalStateException, NoSuchElementException {
        if (!isDivision(division)) {
            throw new IllegalArgumentException("no such division");
        }
        if (hasFixtures(division) || clubsIn(division) < 2) {
            throw new IllegalStateException("the division cannot be planned now");
        }
        planner.pairUp(division, clubs);
        if (!planner.findDays()) {
            throw new NoSuchElementException("there is no plan");
        }
        planner.addTo(fixtures, today + 1);
        return planner.count();
    }

    public int putOff(int fixture, int day) throws IndexOutOfBoundsException, IllegalArgumentException, UnsupportedOperationException {
        Fixture late = knownFixture(fixture);
        if (day <= late.day || day <= today) {
            throw new IllegalArgumentException("the day is not later");
        }
        if (late.state != PLANNED || isHindered(late, day)) {
            throw new UnsupportedOperationException("it cannot be put off to this day");
        }
        int before = late.day;
        late.day = day;
        return before;
    }

    private boolean isHindered(Fixture late, int day) {
        for (int i = 0; i < fixtures.size(); i++) {
            Fixture other = fixtures.get(i);
            if (other != late && other.day == day && !other.isOver() && other.hinders(late)) {
                return true;
            }
        }
        return false;
    }

    public int fixture(int fixture, char what) throws IndexOutOfBoundsException, IllegalArgumentException {
        Fixture asked = knownFixture(fixture);
        if (what == 'h') {
            return asked.home.club.number;
        }
        if (what == 'a') {
            return asked.away.club.number;
        }
        if (what == 'd') {
            return asked.day;
        }
        throw new IllegalArgumentException("no such thing");
    }

    public char stateOf(int fixture) throws IndexOutOfBoundsException {
        return knownFixture(fixture).state;
    }

    // ---- matches ----

    public int name(int fixture, boolean isHome, int player) throws IndexOutOfBoundsException, UnsupportedOperationException, IllegalArgumentException, IllegalStateException {
        Fixture match = knownFixture(fixture);
        int bit = knownBit(player);
        if (match.state != PLANNED) {
            throw new UnsupportedOperationException("it is not planned");
        }
        if ((match.used() & bit) != 0) {
            throw new IllegalArgumentException("the player is named");
        }
        Side side = match.side(isHome);
        if (Integer.bitCount(side.named) >= MOST_NAMED) {
            throw new IllegalStateException("the side is full");
        }
        side.named |= bit;
        return Integer.bitCount(side.named);
    }

    public int kickOff(int fixture) throws IndexOutOfBoundsException, UnsupportedOperationException, IllegalStateException {
        Fixture match = knownFixture(fixture);
        if (match.state != PLANNED || match.day != today || match.home.named == 0 || match.away.named == 0) {
            throw new UnsupportedOperationException("it cannot kick off");
        }
        if (matchOn != null || book.isFull()) {
            throw new IllegalStateException("another match is on");
        }
        match.state = ON;
        match.firstCard = book.cards.size();
        matchOn = match;
        return enter(match.home, match.away, match.home.named) + enter(match.away, match.home, match.away.named);
    }

    /** Brings players on the field and returns how many of them are not eligible. */
    private int enter(Side side, Side other, int who) {
        int strangers = 0;
        for (int i = 0; i < players.size(); i++) {
            if ((who & (1 << i)) != 0 && isStranger(players.get(i), side.club, other.club)) {
                strangers |= 1 << i;
            }
        }
        side.field |= who;
        int wrong = strangers | (who & book.banned());
        book.write(new Event(ENTRY, side, who, strangers));
        return Integer.bitCount(wrong);
    }

    /** Who is registered here and of the other club is lent by it. */
    private static boolean isStranger(Player player, Club here, Club other) {
        return player.at != here || player.owner == other;
    }

    public int goal(int player) throws IndexOutOfBoundsException, IllegalStateException, UnsupportedOperationException {
        int bit = knownBit(player);
        Fixture match = knownMatch();
        Side side = match.sideOnField(bit);
        if (side == null || side.goals >= MOST_GOALS) {
            throw new UnsupportedOperationException("the goal cannot be");
        }
        side.goals++;
        return match.score();
    }

    public int card(int player, boolean isRed) throws IndexOutOfBoundsException, IllegalStateException, UnsupportedOperationException {
        int bit = knownBit(player);
        Fixture match = knownMatch();
        Side side = match.sideOnField(bit);
        if (side == null) {
            throw new UnsupportedOperationException("the player is not on the field");
        }
        if (book.cards.size() >= MOST_CARDS) {
            throw new IllegalStateException("there are as many cards as can be");
        }
        if (isRed || (side.booked & bit) != 0) {
            side.field &= ~bit;
        }
        side.booked |= bit;
        book.cards.add(new Card(player, isRed));
        return book.cards.size() - 1;
    }

    public int change(int out, int in) throws IndexOutOfBoundsException, IllegalStateException, UnsupportedOperationException {
        int outBit = knownBit(out);
        int inBit = knownBit(in);
        Fixture match = knownMatch();
        Side side = match.sideOnField(outBit);
        if (side == null || (match.used() & inBit) != 0 || side.changes >= MOST_CHANGES) {
            throw new UnsupportedOperationException("the change cannot be");
        }
        if (book.isFull()) {
            throw new IllegalStateException("there are as many events as can be");
        }
        side.changes++;
        side.field &= ~outBit;
        side.came |= inBit;
        enter(side, match.otherSide(side), inBit);
        return side.changes;
    }

    public int end() throws IllegalStateException {
        Fixture match = knownMatch();
        finish(match, FULL);
        return match.score();
    }

    public int abandon(boolean isHome) throws IllegalStateException {
        Fixture match = knownMatch();
        finish(match, ABANDONED);
        match.side(isHome).isAtFault = true;
        return match.number;
    }

    private void finish(Fixture match, char state) {
        if (book.isFull()) {
            throw new IllegalStateException("there are as many events as can be");
        }
        match.state = state;
        matchOn = null;
        Event over = new Event(OVER, null, resting(match), 0);
        over.firstCard = match.firstCard;
        over.pastCard = book.cards.size();
        book.write(over);
    }

    /** The players of both clubs who had no part in the match. */
    private int resting(Fixture match) {
        int who = 0;
        for (int i = 0; i < players.size(); i++) {
            Club at = players.get(i).at;
            if (at == match.home.club || at == match.away.club) {
                who |= 1 << i;
            }
        }
        return who & ~match.used();
    }

    // ---- cards, bans, rights ----

    public boolean appeal(int card, boolean isCancelled) throws IndexOutOfBoundsException {
        if (card < 0 || card >= book.cards.size()) {
            throw new IndexOutOfBoundsException("no such card");
        }
        Card shown = book.cards.get(card);
        boolean was = shown.isCancelled;
        shown.isCancelled = isCancelled;
        if (was != isCancelled) {
            book.countAnew();
        }
        return was;
    }

    public int wipe() throws IllegalStateException {
        if (matchOn != null || book.isFull()) {
            throw new IllegalStateException("a match is on");
        }
        int had = book.playersWithYellows();
        book.write(new Event(WIPE, null, 0, 0));
        return had;
    }

    public int ban(int player) throws IndexOutOfBoundsException {
        knownPlayer(player);
        return book.bans[player];
    }

    public int yellows(int player) throws IndexOutOfBoundsException {
        knownPlayer(player);
        return book.yellows[player];
    }

    public boolean isGuilty(int fixture, boolean isHome) throws IndexOutOfBoundsException, UnsupportedOperationException {
        Fixture match = knownFixture(fixture);
        if (match.state == PLANNED) {
            throw new UnsupportedOperationException("it did not kick off");
        }
        return match.side(isHome).isGuilty;
    }

    public int resultOf(int fixture) throws IndexOutOfBoundsException, UnsupportedOperationException {
        Fixture match = knownFixture(fixture);
        if (!match.isOver()) {
            throw new UnsupportedOperationException("it is not over");
        }
        return match.result();
    }

    // ---- tables, season's end ----

    public int takePoints(int club, int points) throws IndexOutOfBoundsException, IllegalArgumentException {
        Club punished = knownClub(club);
        if (!isWithin(points, 1, MOST_TAKEN)) {
            throw new IllegalArgumentException("the points are out of range");
        }
        punished.taken += points;
        return punished.taken;
    }

    public boolean strike(int club, boolean is) throws IndexOutOfBoundsException, IllegalStateException {
        Club struck = knownClub(club);
        if (matchOn != null) {
            throw new IllegalStateException("a match is on");
        }
        boolean was = struck.isStruck;
        struck.isStruck = is;
        return was;
    }

    public int clubAt(int division, int place) throws IllegalArgumentException, IndexOutOfBoundsException {
        if (!isDivision(division)) {
            throw new IllegalArgumentException("no such division");
        }
        if (place < 0 || place >= clubsIn(division)) {
            throw new IndexOutOfBoundsException("no such place");
        }
        table.draw(division, clubs, fixtures);
        return place < table.rows.size() ? table.rows.get(place).number : -1;
    }

    public int points(int club) throws IndexOutOfBoundsException {
        Club asked = knownClub(club);
        if (asked.isStruck) {
            return 0;
        }
        table.draw(asked.division, clubs, fixtures);
        return asked.total;
    }

    public int divisionOf(int club) throws IndexOutOfBoundsException {
        return knownClub(club).division;
    }

    public int registered(int player) throws IndexOutOfBoundsException {
        return knownPlayer(player).at.number;
    }

    public int endSeason() throws IllegalStateException {
        if (isFixtureLeft() || book.isFull()) {
            throw new IllegalStateException("a fixture is left");
        }
        table.draw(1, clubs, fixtures);
        Club rising = table.firstToRise();
        table.draw(0, clubs, fixtures);
        Club falling = rising == null ? null : table.last();
        if (rising != null) {
            rising.division = 0;
        }
        if (falling != null) {
            falling.division = 1;
        }
        clearSeason();
        return rising == null ? -1 : rising.number;
    }

    private boolean isFixtureLeft() {
        for (int i = 0; i < fixtures.size(); i++) {
            Fixture fixture = fixtures.get(i);
            if (!fixture.isOver() && !fixture.hasStruckClub()) {
                return true;
            }
        }
        return false;
    }

    private void clearSeason() {
        fixtures.clear();
        // A match with a struck club may still be on; it goes with the fixtures.
        matchOn = null;
        for (int i = 0; i < clubs.size(); i++) {
            Club club = clubs.get(i);
            club.taken = 0;
            club.isStruck = false;
        }
        book.write(new Event(WIPE, null, 0, 0));
    }

    // ---- the whole ----

    public long money() {
        long sum = 0;
        for (int i = 0; i < clubs.size(); i++) {
            sum += clubs.get(i).money;
        }
        return sum;
    }

    public float overShare() throws ArithmeticException {
        int all = fixtures.size();
        if (all == 0) {
            throw new ArithmeticException("there are no fixtures");
        }
        return (float) fixturesOver() / (float) all;
    }

    public double meanGoals() throws ArithmeticException {
        int over = fixturesOver();
        if (over == 0) {
            throw new ArithmeticException("no match is over");
        }
        int sum = 0;
        for (int i = 0; i < fixtures.size(); i++) {
            Fixture fixture = fixtures.get(i);
            if (fixture.isOver()) {
                sum += fixture.goalsFor(true) + fixture.goalsFor(false);
            }
        }
        return (double) sum / (double) over;
    }

    public boolean isSound() {
        for (int i = 0; i < fixtures.size(); i++) {
            fixtures.get(i).rememberResult();
        }
        boolean isBookSound = book.isSameAnew();
        boolean areResultsSound = true;
        for (int i = 0; i < fixtures.size(); i++) {
            areResultsSound = areResultsSound && fixtures.get(i).isResultSound();
        }
        long due = (long) FIRST_MONEY * clubs.size();
        return isBookSound && areResultsSound && money() == due;
    }

    // ---- what is asked again and again ----

    private static boolean isWithin(int number, int least, int most) {
        return number >= least && number <= most;
    }

    private static boolean isDivision(int division) {
        return isWithin(division, 0, DIVISIONS - 1);
    }

    private boolean isWindowOpen() {
        return isWithin(today, windowFrom, windowTo);
    }

    private int clubsIn(int division) {
        int count = 0;
        for (int i = 0; i < clubs.size(); i++) {
            if (clubs.get(i).division == division) {
                count++;
            }
        }
        return count;
    }

    private boolean hasFixtures(int division) {
        for (int i = 0; i < fixtures.size(); i++) {
            if (fixtures.get(i).home.club.division == division) {
                return true;
            }
        }
        return false;
    }

    private int fixturesOver() {
        int count = 0;
        for (int i = 0; i < fixtures.size(); i++) {
            if (fixtures.get(i).isOver()) {
                count++;
            }
        }
        return count;
    }

    private Club knownClub(int club) {
        if (club < 0 || club >= clubs.size()) {
            throw new IndexOutOfBoundsException("no such club");
        }
        return clubs.get(club);
    }

    private Player knownPlayer(int player) {
        if (player < 0 || player >= players.size() || player >= MOST_PLAYERS) {
            throw new IndexOutOfBoundsException("no such player");
        }
        return players.get(player);
    }

    /** Players are held in sets as the bits of an int. */
    private int knownBit(int player) {
        knownPlayer(player);
        return 1 << player;
    }

    private Fixture knownFixture(int fixture) {
        if (fixture < 0 || fixture >= fixtures.size()) {
            throw new IndexOutOfBoundsException("no such fixture");
        }
        return fixtures.get(fixture);
    }

    private Fixture knownMatch() {
        if (matchOn == null) {
            throw new IllegalStateException("no match is on");
        }
        return matchOn;
    }

    // ---- classes inside ----

    private static final class Club {
        final int number;
        final int ground;
        final int grade;
        int division;
        int money;
        int taken;
        boolean isStruck;
        int rivals;
        // What the table that is drawn last says of this club:
        boolean isInGroup;
        int won;
        int difference;
        int scored;
        int total;
        int overall;
        int key;

        Club(int number, int division, int ground, int grade) {
            this.number = number;
            this.division = division;
            this.ground = ground;
            this.grade = grade;
            this.money = FIRST_MONEY;
        }

        boolean isRivalOf(Club other) {
            return (rivals & (1 << other.number)) != 0;
        }

        void setRival(Club other, boolean is) {
            int bit = 1 << other.number;
            rivals = is ? rivals | bit : rivals & ~bit;
        }

        void clearCount() {
            won = 0;
            difference = 0;
            scored = 0;
        }

        void countMatch(int points, int goals, int against) {
            won += points;
            difference += goals - against;
            scored += goals;
        }
    }

    private static final class Player {
        final Club trainer;
        Club owner;
        Club at;

        Player(Club trainer) {
            this.trainer = trainer;
            this.owner = trainer;
            this.at = trainer;
        }

        boolean isLent() {
            return at != owner;
        }
    }

    /** One side of a match; sets of players are bits. */
    private static final class Side {
        final Club club;
        int named;
        int came;
        int field;
        int booked;
        int goals;
        int changes;
        boolean isGuilty;
        boolean isAtFault;

        Side(Club club) {
            this.club = club;
        }

        boolean isPunished() {
            return isGuilty || isAtFault;
        }
    }

    private static final class Fixture {
        final int number;
        final Side home;
        final Side away;
        int day;
        char state;
        int firstCard;
        int told;

        Fixture(int number, Club home, Club away, int day) {
            this.number = number;
            this.home = new Side(home);
            this.away = new Side(away);
            this.day = day;
            this.state = PLANNED;
        }

        boolean isOver() {
            return state == FULL || state == ABANDONED;
        }

        Side side(boolean isHome) {
            return isHome ? home : away;
        }

        Side otherSide(Side side) {
            return side == home ? away : home;
        }

        /** Everybody who was named or came on, for either side. */
        int used() {
            return home.named | home.came | away.named | away.came;
        }

        Side sideOnField(int bit) {
            if ((home.field & bit) != 0) {
                return home;
            }
            return (away.field & bit) != 0 ? away : null;
        }

        boolean has(Club club) {
            return home.club == club || away.club == club;
        }

        boolean hasStruckClub() {
            return home.club.isStruck || away.club.isStruck;
        }

        boolean hinders(Fixture other) {
            return has(other.home.club) || has(other.away.club) || home.club.ground == other.home.club.ground;
        }

        int score() {
            return 10 * home.goals + away.goals;
        }

        int result() {
            return 10 * goalsFor(true) + goalsFor(false);
        }

        /** The goals of a side as they count. */
        int goalsFor(boolean isHome) {
            if (side(isHome).isPunished()) {
                return 0;
            }
            return side(!isHome).isPunished() ? GOALS_BY_RULE : side(isHome).goals;
        }

        /** The points of a side with these goals as they count; nobody drew who is punished. */
        int pointsFor(int goals, int against) {
            if (goals > against) {
                return POINTS_WON;
            }
            return goals == against && !home.isPunished() ? POINTS_DRAWN : 0;
        }

        void rememberResult() {
            told = isOver() ? result() : -1;
        }

        boolean isResultSound() {
            if (!isOver()) {
                return told == -1;
            }
            return told == result() && isLostIfGuilty(true) && isLostIfGuilty(false);
        }

        private boolean isLostIfGuilty(boolean isHome) {
            int goals = goalsFor(isHome);
            return !side(isHome).isGuilty || goals == 0 && pointsFor(goals, goalsFor(!isHome)) == 0;
        }
    }

    private static final class Card {
        final int player;
        final boolean isRed;
        boolean isCancelled;

        Card(int player, boolean isRed) {
            this.player = player;
            this.isRed = isRed;
        }
    }

    /** Something that bans or rights follow from. */
    private static final class Event {
        final int kind;
        final Side side;
        final int who;
        final int strangers;
        int firstCard;
        int pastCard;

        Event(int kind, Side side, int who, int strangers) {
            this.kind = kind;
            this.side = side;
            this.who = who;
            this.strangers = strangers;
        }
    }

    /** All events in their order, and the bans, yellow cards and guilt that follow from them. */
    private static final class Book {
        final ArrayList<Event> events = new ArrayList<Event>();
        final ArrayList<Card> cards = new ArrayList<Card>();
        final int[] bans = new int[MOST_PLAYERS];
        final int[] yellows = new int[MOST_PLAYERS];
        private final int[] oldBans = new int[MOST_PLAYERS];
        private final int[] oldYellows = new int[MOST_PLAYERS];

        /** A kick-off writes two events at once. */
        boolean isFull() {
            return events.size() + 2 > MOST_EVENTS;
        }

        void write(Event event) {
            events.add(event);
            count(event);
        }

        void countAnew() {
            Arrays.fill(bans, 0);
            Arrays.fill(yellows, 0);
            for (int i = 0; i < events.size(); i++) {
                Side side = events.get(i).side;
                if (side != null) {
                    side.isGuilty = false;
                }
            }
            for (int i = 0; i < events.size(); i++) {
                count(events.get(i));
            }
        }

        boolean isSameAnew() {
            System.arraycopy(bans, 0, oldBans, 0, MOST_PLAYERS);
            System.arraycopy(yellows, 0, oldYellows, 0, MOST_PLAYERS);
            countAnew();
            for (int i = 0; i < MOST_PLAYERS; i++) {
                if (bans[i] != oldBans[i] || yellows[i] != oldYellows[i]) {
                    return false;
                }
            }
            return true;
        }

        private void count(Event event) {
            if (event.kind == ENTRY && event.side != null) {
                if (event.strangers != 0 || (event.who & banned()) != 0) {
                    event.side.isGuilty = true;
                }
            } else if (event.kind == OVER) {
                serve(event.who);
                countCards(event.firstCard, event.pastCard);
            } else if (event.kind == WIPE) {
                Arrays.fill(yellows, 0);
            }
        }

        private void serve(int resting) {
            for (int i = 0; i < MOST_PLAYERS; i++) {
                if ((resting & (1 << i)) != 0 && bans[i] > 0) {
                    bans[i]--;
                }
            }
        }

        private void countCards(int first, int past) {
            int red = 0;
            int once = 0;
            int twice = 0;
            for (int i = Math.max(first, 0); i < past && i < cards.size(); i++) {
                Card card = cards.get(i);
                int bit = card.isCancelled ? 0 : 1 << card.player;
                if (card.isRed) {
                    red |= bit;
                } else {
                    twice |= once & bit;
                    once |= bit;
                }
            }
            for (int i = 0; i < MOST_PLAYERS; i++) {
                int bit = 1 << i;
                punish(i, (red & bit) != 0, (once & bit) != 0, (twice & bit) != 0);
            }
        }

        private void punish(int player, boolean hasRed, boolean hasOne, boolean hasTwo) {
            if (player < 0 || player >= MOST_PLAYERS) {
                return;
            }
            if (hasRed) {
                bans[player] += BAN_OF_RED;
            } else if (hasTwo) {
                bans[player]++;
            } else if (hasOne) {
                yellows[player]++;
                if (yellows[player] % YELLOWS_TO_BAN == 0) {
                    bans[player]++;
                }
            }
        }

        /** The set of those who have matches of a ban left. */
        int banned() {
            int set = 0;
            for (int i = 0; i < MOST_PLAYERS; i++) {
                if (bans[i] > 0) {
                    set |= 1 << i;
                }
            }
            return set;
        }

        int playersWithYellows() {
            int count = 0;
            for (int i = 0; i < MOST_PLAYERS; i++) {
                if (yellows[i] > 0) {
                    count++;
                }
            }
            return count;
        }
    }

    /** Finds the first plan of a division. */
    private static final class Planner {
        private final ArrayList<Club> homes = new ArrayList<Club>();
        private final ArrayList<Club> aways = new ArrayList<Club>();
        private final int[] dayOf = new int[MOST_PAIRS];
        private final int[] clubsOn = new int[MOST_PLAN_DAYS];
        private final int[] groundsOn = new int[MOST_PLAN_DAYS];
        private final boolean[] hasDerby = new boolean[MOST_PLAN_DAYS];
        private int days;

        int count() {
            return homes.size();
        }

        void pairUp(int division, ArrayList<Club> clubs) {
            homes.clear();
            aways.clear();
            int size = 0;
            for (int i = 0; i < clubs.size(); i++) {
                Club home = clubs.get(i);
                if (home.division == division) {
                    size++;
                    pairAtHome(home, clubs);
                }
            }
            days = size % 2 == 0 ? 2 * size - 2 : 2 * size;
        }

        private void pairAtHome(Club home, ArrayList<Club> clubs) {
            for (int i = 0; i < clubs.size(); i++) {
                Club away = clubs.get(i);
                if (away != home && away.division == home.division) {
                    homes.add(home);
                    aways.add(away);
                }
            }
        }

        boolean findDays() {
            if (homes.size() > MOST_PAIRS || days > MOST_PLAN_DAYS) {
                return false;
            }
            Arrays.fill(clubsOn, 0);
            Arrays.fill(groundsOn, 0);
            for (int i = 0; i < MOST_PLAN_DAYS; i++) {
                hasDerby[i] = false;
            }
            return place(0);
        }

        /** Tries days from the first on, so the first plan that is found is the one that counts. */
        private boolean place(int pair) {
            if (pair < 0 || pair >= homes.size() || pair >= aways.size() || pair >= MOST_PAIRS) {
                return true;
            }
            Club home = homes.get(pair);
            Club away = aways.get(pair);
            int both = 1 << home.number | 1 << away.number;
            int ground = 1 << home.ground;
            boolean isDerby = home.isRivalOf(away);
            for (int day = 0; day < days && day < MOST_PLAN_DAYS; day++) {
                boolean isFree = (clubsOn[day] & both) == 0 && (groundsOn[day] & ground) == 0;
                if (isFree && !(isDerby && hasDerby[day])) {
                    boolean hadDerby = hasDerby[day];
                    clubsOn[day] |= both;
                    groundsOn[day] |= ground;
                    hasDerby[day] = hadDerby || isDerby;
                    dayOf[pair] = day;
                    if (place(pair + 1)) {
                        return true;
                    }
                    clubsOn[day] &= ~both;
                    groundsOn[day] &= ~ground;
                    hasDerby[day] = hadDerby;
                }
            }
            return false;
        }

        void addTo(ArrayList<Fixture> fixtures, int firstDay) {
            for (int i = 0; i < homes.size() && i < aways.size() && i < MOST_PAIRS; i++) {
                fixtures.add(new Fixture(fixtures.size(), homes.get(i), aways.get(i), firstDay + dayOf[i]));
            }
        }
    }

    /** Draws the table of a division. */
    private static final class Table {
        final ArrayList<Club> rows = new ArrayList<Club>();

        void draw(int division, ArrayList<Club> clubs, ArrayList<Fixture> fixtures) {
            rows.clear();
            for (int i = 0; i < clubs.size(); i++) {
                clubs.get(i).isInGroup = false;
            }
            addRows(division, clubs, false);
            int size = rows.size();
            countAmong(0, size, fixtures);
            for (int i = 0; i < size; i++) {
                Club club = rows.get(i);
                club.total = club.won - club.taken;
                club.overall = club.difference * KEY_STEP + club.scored;
                club.key = club.total;
            }
            sort(0, size);
            partTies(0, size, fixtures, 0);
            addRows(division, clubs, true);
        }

        Club firstToRise() {
            for (int i = 0; i < rows.size(); i++) {
                Club club = rows.get(i);
                if (!club.isStruck && club.grade >= GRADE_TO_RISE) {
                    return club;
                }
            }
            return null;
        }

        Club last() {
            return rows.isEmpty() ? null : rows.get(rows.size() - 1);
        }

        private void addRows(int division, ArrayList<Club> clubs, boolean areStruck) {
            for (int i = 0; i < clubs.size(); i++) {
                Club club = clubs.get(i);
                if (club.division == division && club.isStruck == areStruck) {
                    rows.add(club);
                }
            }
        }

        /** Counts the matches that the clubs of these rows played among them alone. */
        private void countAmong(int from, int to, ArrayList<Fixture> fixtures) {
            for (int i = from; i < to; i++) {
                rows.get(i).isInGroup = true;
                rows.get(i).clearCount();
            }
            for (int i = 0; i < fixtures.size(); i++) {
                Fixture match = fixtures.get(i);
                Club home = match.home.club;
                Club away = match.away.club;
                if (match.isOver() && home.isInGroup && away.isInGroup) {
                    int goals = match.goalsFor(true);
                    int against = match.goalsFor(false);
                    home.countMatch(match.pointsFor(goals, against), goals, against);
                    away.countMatch(match.pointsFor(against, goals), against, goals);
                }
            }
            for (int i = from; i < to; i++) {
                rows.get(i).isInGroup = false;
            }
        }

        /** Puts rows with higher keys first and leaves those with the same key as they stand. */
        private void sort(int from, int to) {
            for (int i = from + 1; i < to; i++) {
                Club club = rows.get(i);
                int place = i;
                while (place > from && rows.get(place - 1).key < club.key) {
                    rows.set(place, rows.get(place - 1));
                    place--;
                }
                rows.set(place, club);
            }
        }

        /** Parts each run of rows that have the same key. */
        private void partTies(int from, int to, ArrayList<Fixture> fixtures, int depth) {
            int first = from;
            for (int next = from + 1; next <= to; next++) {
                if (next == to || rows.get(next).key != rows.get(first).key) {
                    if (next - first > 1) {
                        partTie(first, next, fixtures, depth);
                    }
                    first = next;
                }
            }
        }

        private void partTie(int from, int to, ArrayList<Fixture> fixtures, int depth) {
            if (depth >= MOST_IN_DIVISION) {
                return;
            }
            countAmong(from, to, fixtures);
            for (int i = from; i < to; i++) {
                Club club = rows.get(i);
                club.key = club.won * KEY_STEP + club.difference;
            }
            sort(from, to);
            if (rows.get(from).key != rows.get(to - 1).key) {
                partTies(from, to, fixtures, depth + 1);
                return;
            }
            for (int i = from; i < to; i++) {
                rows.get(i).key = rows.get(i).overall;
            }
            sort(from, to);
        }
    }
}
