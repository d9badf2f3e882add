import java.util.Map;
import java.util.TreeMap;

/**
 * Long runs of calls, drawn from a written seed, on the program and on the Model side by side.
 * Prints the first run in which they differ, and fails as well if the runs left an outcome of some method untried.
 */
public final class RandomRunsTest {
    interface Both {
        Object on(Goalmouth real, Model model, boolean isReal);
    }

    private static final int RUNS = 1200;
    private static final int CALLS = 512;
    private static final Map<String, Integer> seen = new TreeMap<>();

    private long seed;
    private final StringBuilder trace = new StringBuilder();
    private final Goalmouth real = new Goalmouth();
    private final Model model = new Model();
    private int calls = 0;
    private boolean isAlike = true;

    private RandomRunsTest(long seed) {
        this.seed = seed * 7919 + 17;
    }

    public static void main(String[] args) {
        for (int run = 0; run < RUNS; run++) {
            RandomRunsTest test = new RandomRunsTest(run);
            test.play();
            if (!test.isAlike) {
                System.out.println("run " + run + ":\n" + test.trace);
                System.exit(1);
            }
        }
        boolean isAllTried = true;
        for (String outcome : EXPECTED) {
            if (seen.getOrDefault(outcome, 0) < 20) {
                System.out.println("hardly tried: " + outcome + ", " + seen.getOrDefault(outcome, 0) + " times");
                isAllTried = false;
            }
        }
        System.out.println(RUNS + " runs alike");
        if (!isAllTried) {
            System.exit(1);
        }
    }

    private int draw(int bound) {
        seed = seed * 6364136223846793005L + 1442695040888963407L;
        return (int) ((seed >>> 33) % bound);
    }

    private boolean flip() {
        return draw(2) == 0;
    }

    /** Mostly a number that there is, now and then one that there is not. */
    private int some(int size) {
        return draw(25) == 0 ? draw(4) == 0 ? -1 : size + draw(2) : draw(Math.max(1, size));
    }

    private int club() {
        return some(model.clubs.size());
    }

    private int player() {
        return some(model.players.size());
    }

    /** A player on the field, mostly. */
    private int fieldPlayer() {
        for (int i = 0; i < 12; i++) {
            int p = player();
            if (model.on != null && (model.on.field.get(0).contains(p) || model.on.field.get(1).contains(p))) {
                return p;
            }
        }
        return player();
    }

    private void ask(String method, String text, Both call) {
        if (calls >= CALLS || !isAlike) {
            return;
        }
        calls++;
        Object want = Due.outcome(() -> call.on(real, model, false));
        Object got = Due.outcome(() -> call.on(real, model, true));
        String kind = want instanceof Class<?> c ? c.getSimpleName() : want instanceof Boolean ? want.toString() : "answer";
        seen.merge(method + " " + kind, 1, Integer::sum);
        trace.append(method).append(text).append(" -> ").append(got).append('\n');
        if (!want.equals(got)) {
            trace.append("  but due is ").append(want).append('\n');
            isAlike = false;
        }
    }

    private void play() {
        int clubs = 2 + draw(8);
        int style = draw(4);
        for (int i = 0; i < clubs; i++) {
            int division = draw(20) == 0 ? 2 - 3 * draw(2) : style == 0 ? 0 : style == 1 ? 1 : draw(2);
            int ground = draw(30) == 0 ? 8 : draw(style == 2 ? 8 : 5);
            int grade = draw(30) == 0 ? 4 - 5 * draw(2) : draw(4);
            ask("addClub", "(" + division + ", " + ground + ", " + grade + ")",
                (r, m, is) -> is ? r.addClub(division, ground, grade) : m.addClub(division, ground, grade));
        }
        int players = 4 + draw(22);
        for (int i = 0; i < players; i++) {
            int club = club();
            ask("addPlayer", "(" + club + ")", (r, m, is) -> is ? r.addPlayer(club) : m.addPlayer(club));
        }
        if (draw(4) != 0) {
            window(0, 9999);
        }
        while (calls < CALLS && isAlike) {
            step();
        }
    }

    private void window(int from, int to) {
        ask("setWindow", "(" + from + ", " + to + ")", (r, m, is) -> is ? r.setWindow(from, to) : m.setWindow(from, to));
    }

    private void step() {
        if (draw(4) == 0) {
            look();
        } else if (model.on != null && draw(8) != 0) {
            playOn();
        } else if (draw(3) == 0) {
            manage();
        } else {
            prepare();
        }
    }

    private void playOn() {
        int p = fieldPlayer();
        int q = player();
        boolean is = flip();
        boolean isRed = draw(3) == 0;
        switch (draw(12)) {
            case 0: case 1: case 2:
                int times = draw(12) == 0 ? 10 : 1;
                for (int i = 0; i < times; i++) {
                    ask("goal", "(" + p + ")", (r, m, real) -> real ? r.goal(p) : m.goal(p));
                }
                break;
            case 3: case 4: case 5: case 6:
                ask("card", "(" + p + ", " + isRed + ")", (r, m, real) -> real ? r.card(p, isRed) : m.card(p, isRed));
                break;
            case 7: case 8:
                ask("change", "(" + p + ", " + q + ")", (r, m, real) -> real ? r.change(p, q) : m.change(p, q));
                break;
            case 9:
                ask("abandon", "(" + is + ")", (r, m, real) -> real ? r.abandon(is) : m.abandon(is));
                break;
            default:
                ask("end", "()", (r, m, real) -> real ? r.end() : m.end());
        }
    }

    /** Goes towards the next kick-off. */
    private void prepare() {
        if (model.matches.isEmpty() || draw(25) == 0) {
            int division = draw(30) == 0 ? 2 : draw(2);
            ask("plan", "(" + division + ")", (r, m, is) -> is ? r.plan(division) : m.plan(division));
            return;
        }
        int next = -1;
        for (int i = 0; i < model.matches.size(); i++) {
            Model.Match match = model.matches.get(i);
            if (match.state == 'p' && match.day >= model.day
                && (next < 0 || match.day < model.matches.get(next).day)) {
                next = i;
            }
        }
        int fixture = next < 0 || draw(12) == 0 ? some(model.matches.size()) : next;
        boolean isReady = next >= 0 && !model.matches.get(next).named.get(0).isEmpty()
            && !model.matches.get(next).named.get(1).isEmpty();
        if (next >= 0 && model.matches.get(next).day > model.day && draw(3) == 0) {
            int days = draw(20) == 0 ? draw(2) * 100 : Math.min(99, model.matches.get(next).day - model.day);
            ask("goOn", "(" + days + ")", (r, m, is) -> is ? r.goOn(days) : m.goOn(days));
        } else if (isReady && draw(3) != 0) {
            ask("kickOff", "(" + fixture + ")", (r, m, is) -> is ? r.kickOff(fixture) : m.kickOff(fixture));
        } else if (next < 0 && flip()) {
            putOff(fixture);
        } else if (next < 0 || draw(40) == 0) {
            close();
        } else {
            nameSome(fixture, isReady);
        }
    }

    private void nameSome(int fixture, boolean isReady) {
        boolean isHome = flip();
        int times = draw(20) == 0 ? 6 : 1;
        for (int i = 0; i < times; i++) {
            int p = player();
            // Mostly players of the side's own club, so that rights are not always broken.
            for (int k = 0; k < 10 && draw(8) != 0; k++) {
                boolean isRight = p >= 0 && p < model.players.size() && fixture >= 0 && fixture < model.matches.size()
                    && model.players.get(p).at() == model.matches.get(fixture).club[isHome ? 0 : 1];
                p = isRight ? p : player();
            }
            int named = p;
            ask("name", "(" + fixture + ", " + isHome + ", " + named + ")",
                (r, m, is) -> is ? r.name(fixture, isHome, named) : m.name(fixture, isHome, named));
        }
    }

    private void putOff(int fixture) {
        int day = model.day + draw(6) - (draw(8) == 0 ? 3 : 0);
        ask("putOff", "(" + fixture + ", " + day + ")", (r, m, is) -> is ? r.putOff(fixture, day) : m.putOff(fixture, day));
    }

    private void close() {
        for (int i = 0; i < model.clubs.size() && draw(6) != 0; i++) {
            int club = i;
            ask("strike", "(" + club + ", true)", (r, m, is) -> is ? r.strike(club, true) : m.strike(club, true));
        }
        ask("endSeason", "()", (r, m, is) -> is ? r.endSeason() : m.endSeason());
    }

    private void manage() {
        int c = club();
        int d = club();
        int p = player();
        boolean flag = flip();
        switch (draw(14)) {
            case 0:
                int fee = draw(20) == 0 ? draw(2) * 10001 - 1 : draw(700);
                ask("sell", "(" + p + ", " + c + ", " + fee + ")", (r, m, is) -> is ? r.sell(p, c, fee) : m.sell(p, c, fee));
                break;
            case 1:
                ask("lend", "(" + p + ", " + c + ")", (r, m, is) -> is ? r.lend(p, c) : m.lend(p, c));
                break;
            case 2:
                ask("callBack", "(" + p + ")", (r, m, is) -> is ? r.callBack(p) : m.callBack(p));
                break;
            case 3:
                ask("setDerby", "(" + c + ", " + d + ", " + flag + ")",
                    (r, m, is) -> is ? r.setDerby(c, d, flag) : m.setDerby(c, d, flag));
                break;
            case 4:
                putOff(some(model.matches.size()));
                break;
            case 5: case 6: case 7: case 8:
                int card = draw(3) == 0 ? some(model.cards.size()) : model.cards.size() - 1 - draw(4);
                boolean isCancelled = draw(3) != 0;
                ask("appeal", "(" + card + ", " + isCancelled + ")",
                    (r, m, is) -> is ? r.appeal(card, isCancelled) : m.appeal(card, isCancelled));
                break;
            case 9:
                if (draw(3) == 0) {
                    ask("wipe", "()", (r, m, is) -> is ? r.wipe() : m.wipe());
                }
                break;
            case 10:
                int points = draw(10) == 0 ? draw(2) * 31 : draw(3) == 0 ? 1 + draw(30) : 1 + draw(3);
                ask("takePoints", "(" + c + ", " + points + ")",
                    (r, m, is) -> is ? r.takePoints(c, points) : m.takePoints(c, points));
                break;
            case 11:
                boolean isStruck = draw(3) == 0;
                ask("strike", "(" + c + ", " + isStruck + ")", (r, m, is) -> is ? r.strike(c, isStruck) : m.strike(c, isStruck));
                break;
            case 12:
                if (draw(6) == 0) {
                    window(some(9999), some(9999));
                    window(draw(model.day + 1), Math.min(9999, model.day + draw(50)));
                }
                break;
            default:
                if (draw(6) == 0) {
                    ask("addPlayer", "(" + c + ")", (r, m, is) -> is ? r.addPlayer(c) : m.addPlayer(c));
                    ask("endSeason", "()", (r, m, is) -> is ? r.endSeason() : m.endSeason());
                }
        }
    }

    private void look() {
        int c = club();
        int p = player();
        int f = some(model.matches.size());
        boolean flag = flip();
        switch (draw(12)) {
            case 0:
                for (int i = 0; i < model.players.size(); i++) {
                    int each = i;
                    ask("ban", "(" + each + ")", (r, m, is) -> is ? r.ban(each) : m.ban(each));
                }
                ask("ban", "(" + p + ")", (r, m, is) -> is ? r.ban(p) : m.ban(p));
                break;
            case 1:
                ask("yellows", "(" + p + ")", (r, m, is) -> is ? r.yellows(p) : m.yellows(p));
                break;
            case 2:
                ask("isGuilty", "(" + f + ", " + flag + ")", (r, m, is) -> is ? r.isGuilty(f, flag) : m.isGuilty(f, flag));
                break;
            case 3:
                ask("resultOf", "(" + f + ")", (r, m, is) -> is ? r.resultOf(f) : m.resultOf(f));
                break;
            case 4:
                int division = draw(20) == 0 ? 2 - 3 * draw(2) : draw(2);
                for (int i = -1; i < 5; i++) {
                    int place = i;
                    ask("clubAt", "(" + division + ", " + place + ")",
                        (r, m, is) -> is ? r.clubAt(division, place) : m.clubAt(division, place));
                }
                break;
            case 5:
                ask("points", "(" + c + ")", (r, m, is) -> is ? r.points(c) : m.points(c));
                break;
            case 6:
                ask("divisionOf", "(" + c + ")", (r, m, is) -> is ? r.divisionOf(c) : m.divisionOf(c));
                break;
            case 7:
                ask("registered", "(" + p + ")", (r, m, is) -> is ? r.registered(p) : m.registered(p));
                break;
            case 8:
                ask("money", "()", (r, m, is) -> is ? r.money() : m.money());
                ask("overShare", "()", (r, m, is) -> is ? r.overShare() : m.overShare());
                break;
            case 9:
                ask("meanGoals", "()", (r, m, is) -> is ? r.meanGoals() : m.meanGoals());
                break;
            case 10:
                ask("isSound", "()", (r, m, is) -> is ? r.isSound() : true);
                break;
            default:
                char what = "hadx".charAt(draw(4));
                ask("fixture", "(" + f + ", " + what + ")", (r, m, is) -> is ? r.fixture(f, what) : m.fixture(f, what));
                ask("stateOf", "(" + f + ")", (r, m, is) -> is ? r.stateOf(f) : m.stateOf(f));
        }
    }

    /** Every outcome of every method that the document knows. */
    private static final String[] EXPECTED = {
        "addClub answer", "addClub IllegalArgumentException", "addClub IllegalStateException",
        "addPlayer answer", "addPlayer IndexOutOfBoundsException", "addPlayer IllegalStateException",
        "setWindow true", "setWindow false", "setWindow IllegalArgumentException",
        "goOn answer", "goOn IllegalArgumentException",
        "sell answer", "sell IndexOutOfBoundsException", "sell IllegalArgumentException", "sell UnsupportedOperationException",
        "lend answer", "lend IndexOutOfBoundsException", "lend IllegalArgumentException", "lend UnsupportedOperationException",
        "callBack answer", "callBack IndexOutOfBoundsException", "callBack UnsupportedOperationException",
        "setDerby true", "setDerby false", "setDerby IndexOutOfBoundsException", "setDerby IllegalArgumentException",
        "plan answer", "plan IllegalArgumentException", "plan IllegalStateException", "plan NoSuchElementException",
        "putOff answer", "putOff IndexOutOfBoundsException", "putOff IllegalArgumentException", "putOff UnsupportedOperationException",
        "fixture answer", "fixture IndexOutOfBoundsException", "fixture IllegalArgumentException",
        "stateOf answer", "stateOf IndexOutOfBoundsException",
        "name answer", "name IndexOutOfBoundsException", "name UnsupportedOperationException",
        "name IllegalArgumentException", "name IllegalStateException",
        "kickOff answer", "kickOff IndexOutOfBoundsException", "kickOff UnsupportedOperationException", "kickOff IllegalStateException",
        "goal answer", "goal IndexOutOfBoundsException", "goal UnsupportedOperationException",
        "card answer", "card IndexOutOfBoundsException", "card UnsupportedOperationException",
        "change answer", "change IndexOutOfBoundsException", "change UnsupportedOperationException",
        "end answer", "abandon answer",
        "appeal true", "appeal false", "appeal IndexOutOfBoundsException",
        "wipe answer", "wipe IllegalStateException",
        "ban answer", "ban IndexOutOfBoundsException", "yellows answer", "yellows IndexOutOfBoundsException",
        "isGuilty true", "isGuilty false", "isGuilty IndexOutOfBoundsException", "isGuilty UnsupportedOperationException",
        "resultOf answer", "resultOf IndexOutOfBoundsException", "resultOf UnsupportedOperationException",
        "takePoints answer", "takePoints IndexOutOfBoundsException", "takePoints IllegalArgumentException",
        "strike true", "strike false", "strike IndexOutOfBoundsException", "strike IllegalStateException",
        "clubAt answer", "clubAt IllegalArgumentException", "clubAt IndexOutOfBoundsException",
        "points answer", "points IndexOutOfBoundsException", "divisionOf answer", "divisionOf IndexOutOfBoundsException",
        "registered answer", "registered IndexOutOfBoundsException",
        "endSeason answer", "endSeason IllegalStateException",
        "money answer", "overShare answer", "overShare ArithmeticException",
        "meanGoals answer", "meanGoals ArithmeticException", "isSound true",
    };
}
