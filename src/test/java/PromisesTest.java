import java.util.NoSuchElementException;

/** Each promise by hand: ordinary inputs, edges, wrong inputs, and that a call that throws changes nothing. */
public final class PromisesTest {
    private static final Class<?> INDEX = IndexOutOfBoundsException.class;
    private static final Class<?> ARGUMENT = IllegalArgumentException.class;
    private static final Class<?> STATE = IllegalStateException.class;
    private static final Class<?> UNSUPPORTED = UnsupportedOperationException.class;
    private static final Class<?> NO_ELEMENT = NoSuchElementException.class;
    private static final Class<?> ARITHMETIC = ArithmeticException.class;

    public static void main(String[] args) {
        newObject();
        addClub();
        addPlayer();
        setWindow();
        goOn();
        sell();
        sellShares();
        lendAndCallBack();
        setDerby();
        plan();
        putOff();
        fixtureAndState();
        name();
        kickOff();
        rights();
        goal();
        card();
        change();
        end();
        abandon();
        appeal();
        appealTurnsResults();
        wipe();
        bans();
        bansServed();
        yellows();
        isGuilty();
        resultOf();
        takePoints();
        strike();
        clubAt();
        tableTies();
        points();
        endSeason();
        endSeasonMoves();
        seasonBehindSeason();
        money();
        shares();
        isSound();
        Due.finish();
    }

    private static void is(String what, Object want, Due.Call call) {
        Due.is(what, want, call);
    }

    // ---- federations to begin with ----

    /** Clubs 0 to n-1 of the division 0, on grounds and with grades of their own, each with this many players. */
    private static Goalmouth league(int clubs, int playersEach) {
        Goalmouth x = new Goalmouth();
        for (int i = 0; i < clubs; i++) {
            x.addClub(0, i, i % 4);
        }
        for (int i = 0; i < clubs * playersEach; i++) {
            x.addPlayer(i / playersEach);
        }
        return x;
    }

    /** A match of this fixture is on, with these players alone. */
    private static void begin(Goalmouth x, int fixture, int home, int away) {
        int today = x.goOn(1);
        for (int day = today + 1; x.fixture(fixture, 'd') < today; day++) {
            int tried = day;
            Due.outcome(() -> x.putOff(fixture, tried));
        }
        if (x.fixture(fixture, 'd') > today) {
            x.goOn(x.fixture(fixture, 'd') - today);
        }
        x.name(fixture, true, home);
        x.name(fixture, false, away);
        x.kickOff(fixture);
    }

    private static void play(Goalmouth x, int fixture, int home, int away, int score) {
        begin(x, fixture, home, away);
        for (int i = 0; i < score / 10; i++) {
            x.goal(home);
        }
        for (int i = 0; i < score % 10; i++) {
            x.goal(away);
        }
        x.end();
    }

    // ---- promises ----

    private static void newObject() {
        Goalmouth x = new Goalmouth();
        is("1: no money", 0L, () -> x.money());
        is("1: no club", INDEX, () -> x.divisionOf(0));
        is("1: no player", INDEX, () -> x.registered(0));
        is("1: no fixture", INDEX, () -> x.stateOf(0));
        is("1: no card", INDEX, () -> x.appeal(0, true));
        is("1: no place", INDEX, () -> x.clubAt(0, 0));
        is("1: sound", true, () -> x.isSound());
        is("1: nobody goes up", -1, () -> x.endSeason());
        is("1: the day 0", 1, () -> x.goOn(1));
        x.addClub(0, 0, 0);
        x.addClub(0, 0, 0);
        x.addPlayer(0);
        is("1: no window on any day", UNSUPPORTED, () -> x.lend(0, 1));
        is("1: no window on any other", UNSUPPORTED, () -> x.lend(0, x.goOn(9) == 10 ? 1 : 0));
    }

    private static void addClub() {
        Goalmouth x = new Goalmouth();
        is("2: division -1", ARGUMENT, () -> x.addClub(-1, 0, 0));
        is("2: division 2", ARGUMENT, () -> x.addClub(2, 0, 0));
        is("2: ground -1", ARGUMENT, () -> x.addClub(0, -1, 0));
        is("2: ground 8", ARGUMENT, () -> x.addClub(0, 8, 0));
        is("2: grade -1", ARGUMENT, () -> x.addClub(0, 0, -1));
        is("2: grade 4", ARGUMENT, () -> x.addClub(0, 0, 4));
        is("2: none was added", 0L, () -> x.money());
        is("2: the first", 0, () -> x.addClub(1, 7, 3));
        is("2: the same ground", 1, () -> x.addClub(1, 7, 0));
        is("2: the third", 2, () -> x.addClub(1, 0, 0));
        is("2: the fourth", 3, () -> x.addClub(1, 0, 0));
        is("2: a fifth", STATE, () -> x.addClub(1, 0, 0));
        is("2: a fifth out of range", ARGUMENT, () -> x.addClub(1, 0, 4));
        is("2: of the other division", 4, () -> x.addClub(0, 0, 0));
        is("2: its division", 0, () -> x.divisionOf(4));
        is("2: its money", 5000L, () -> x.money());
    }

    private static void addPlayer() {
        Goalmouth x = new Goalmouth();
        is("3: no club", INDEX, () -> x.addPlayer(0));
        x.addClub(0, 0, 0);
        x.addClub(0, 1, 0);
        is("3: club -1", INDEX, () -> x.addPlayer(-1));
        is("3: club 2", INDEX, () -> x.addPlayer(2));
        for (int i = 0; i < 24; i++) {
            int number = i;
            is("3: player " + i, i, () -> x.addPlayer(number % 2));
        }
        is("3: a 25th", STATE, () -> x.addPlayer(0));
        is("3: a 25th of no club", INDEX, () -> x.addPlayer(2));
        is("3: the last", 1, () -> x.registered(23));
        is("3: no 25th", INDEX, () -> x.registered(24));
        is("3: no ban", 0, () -> x.ban(23));
        is("3: no yellow card", 0, () -> x.yellows(23));
    }

    private static void setWindow() {
        Goalmouth x = new Goalmouth();
        is("4: from -1", ARGUMENT, () -> x.setWindow(-1, 5));
        is("4: from 10000", ARGUMENT, () -> x.setWindow(10000, 5));
        is("4: to -1", ARGUMENT, () -> x.setWindow(0, -1));
        is("4: to 10000", ARGUMENT, () -> x.setWindow(0, 10000));
        is("4: all days", true, () -> x.setWindow(0, 9999));
        is("4: today alone", true, () -> x.setWindow(0, 0));
        is("4: from tomorrow", false, () -> x.setWindow(1, 9999));
        x.goOn(3);
        is("4: until yesterday", false, () -> x.setWindow(0, 2));
        is("4: until today", true, () -> x.setWindow(0, 3));
        is("4: from today", true, () -> x.setWindow(3, 9));
        is("4: back to front", false, () -> x.setWindow(9, 0));

        Goalmouth y = league(2, 1);
        y.setWindow(0, 0);
        is("4: wrong days", ARGUMENT, () -> y.setWindow(5, 10000));
        is("4: leave the window", 1000, () -> y.sell(0, 1, 0));
    }

    private static void goOn() {
        Goalmouth x = league(2, 1);
        is("5: 0 days", ARGUMENT, () -> x.goOn(0));
        is("5: -1 days", ARGUMENT, () -> x.goOn(-1));
        is("5: 100 days", ARGUMENT, () -> x.goOn(100));
        is("5: 99 days", 99, () -> x.goOn(99));
        is("5: a day", 100, () -> x.goOn(1));
        x.plan(0);
        begin(x, 0, 0, 1);
        is("5: 0 days while a match is on", ARGUMENT, () -> x.goOn(0));
        is("5: a match is on", STATE, () -> x.goOn(1));
        x.end();
        is("5: the match is over", 102, () -> x.goOn(1));
    }

    private static void sell() {
        Goalmouth x = league(3, 1);
        is("6: no window", UNSUPPORTED, () -> x.sell(0, 1, 10));
        is("6: own club without window", ARGUMENT, () -> x.sell(0, 0, 10));
        is("6: no player", INDEX, () -> x.sell(3, 1, 10));
        is("6: player -1", INDEX, () -> x.sell(-1, 1, 10));
        is("6: no club", INDEX, () -> x.sell(0, 3, -1));
        is("6: club -1", INDEX, () -> x.sell(0, -1, 10));
        is("6: fee -1", ARGUMENT, () -> x.sell(0, 1, -1));
        is("6: fee 10000", ARGUMENT, () -> x.sell(0, 1, 10000));
        x.setWindow(2, 3);
        x.goOn(1);
        is("6: before the window", UNSUPPORTED, () -> x.sell(0, 1, 10));
        x.goOn(1);
        is("6: its first day", 990, () -> x.sell(0, 1, 10));
        is("6: fee 9999 is too much", UNSUPPORTED, () -> x.sell(0, 2, 9999));
        is("6: more than there is", UNSUPPORTED, () -> x.sell(0, 2, 1001));
        is("6: he stayed", 1, () -> x.registered(0));
        x.goOn(1);
        is("6: its last day, all that there is", 0, () -> x.sell(0, 2, 1000));
        is("6: he went", 2, () -> x.registered(0));
        is("6: no fee", 0, () -> x.sell(1, 2, 0));
        x.goOn(1);
        is("6: behind the window", UNSUPPORTED, () -> x.sell(0, 1, 10));
        x.setWindow(4, 4);
        x.lend(0, 0);
        is("6: lent", UNSUPPORTED, () -> x.sell(0, 1, 10));
        is("6: lent, to the club at which he is", UNSUPPORTED, () -> x.sell(0, 0, 10));
        is("6: lent, to his own", ARGUMENT, () -> x.sell(0, 2, 10));
        is("6: money stays", 3000L, () -> x.money());
    }

    private static void sellShares() {
        Goalmouth x = league(3, 1);
        x.setWindow(0, 9999);
        // The trainer sells: no share goes anywhere else.
        is("6: trainer sells", 600, () -> x.sell(0, 1, 400));
        is("6: trainer got all", 1399, () -> x.sell(1, 0, 1));
        // 0 has 1399, 1 has 601, 2 has 1000. Of 399 the trainer gets 19.
        is("6: a third club", 601, () -> x.sell(0, 2, 399));
        is("6: the seller got the rest", 981, () -> x.sell(2, 1, 0));
        is("6: the trainer got 19", 1418, () -> x.sell(2, 0, 0));
        // The trainer buys: no share.
        is("6: trainer buys", 1018, () -> x.sell(0, 0, 400));
        is("6: the seller got all", 1001, () -> x.sell(1, 2, 0));
        // The player 1 was trained by 1 and is of 2 now: a fee of 19 is too small for a share.
        is("6: fee 19", 999, () -> x.sell(1, 0, 19));
        is("6: all 19 to the seller", 1020, () -> x.sell(2, 2, 0));
        is("6: money", 3000L, () -> x.money());
    }

    private static void lendAndCallBack() {
        Goalmouth x = league(3, 1);
        is("7: no window", UNSUPPORTED, () -> x.lend(0, 1));
        is("7: own club", ARGUMENT, () -> x.lend(0, 0));
        is("7: no player", INDEX, () -> x.lend(3, 0));
        is("7: player -1", INDEX, () -> x.lend(-1, 0));
        is("7: no club", INDEX, () -> x.lend(0, 3));
        is("7: club -1", INDEX, () -> x.lend(0, -1));
        is("8: no window", UNSUPPORTED, () -> x.callBack(0));
        x.setWindow(1, 2);
        x.goOn(1);
        is("8: not lent", UNSUPPORTED, () -> x.callBack(0));
        is("8: no player", INDEX, () -> x.callBack(3));
        is("8: player -1", INDEX, () -> x.callBack(-1));
        is("7: lent", 0, () -> x.lend(0, 2));
        is("7: registered there", 2, () -> x.registered(0));
        is("7: lent twice", UNSUPPORTED, () -> x.lend(0, 1));
        is("7: lent once more to his own", ARGUMENT, () -> x.lend(0, 0));
        x.goOn(2);
        is("8: behind the window", UNSUPPORTED, () -> x.callBack(0));
        is("8: still there", 2, () -> x.registered(0));
        x.setWindow(3, 3);
        is("8: called back", 2, () -> x.callBack(0));
        is("8: registered at home", 0, () -> x.registered(0));
        is("8: called back twice", UNSUPPORTED, () -> x.callBack(0));
        x.sell(0, 1, 100);
        is("7: the club that bought lends", 1, () -> x.lend(0, 0));
        is("8: back from the trainer", 0, () -> x.callBack(0));
        is("8: to the club that bought", 1, () -> x.registered(0));
    }

    private static void setDerby() {
        Goalmouth x = league(2, 0);
        is("9: no club", INDEX, () -> x.setDerby(0, 2, true));
        is("9: no other", INDEX, () -> x.setDerby(2, 0, true));
        is("9: club -1", INDEX, () -> x.setDerby(-1, 0, true));
        is("9: no club twice", INDEX, () -> x.setDerby(2, 2, true));
        is("9: the same", ARGUMENT, () -> x.setDerby(1, 1, true));
        is("9: was none", false, () -> x.setDerby(0, 1, true));
        is("9: was one, both ways", true, () -> x.setDerby(1, 0, true));
        is("9: no more", true, () -> x.setDerby(1, 0, false));
        is("9: was none again", false, () -> x.setDerby(0, 1, false));
    }

    private static String plan(Goalmouth x, int fixtures) {
        StringBuilder text = new StringBuilder();
        for (int i = 0; i < fixtures; i++) {
            text.append(x.fixture(i, 'h')).append(x.fixture(i, 'a')).append('@').append(x.fixture(i, 'd')).append(' ');
        }
        return text.toString().trim();
    }

    private static void plan() {
        Goalmouth x = league(1, 0);
        is("10: division -1", ARGUMENT, () -> x.plan(-1));
        is("10: division 2", ARGUMENT, () -> x.plan(2));
        is("10: no clubs", STATE, () -> x.plan(1));
        is("10: one club", STATE, () -> x.plan(0));
        x.addClub(0, 0, 0);
        x.goOn(5);
        is("10: two clubs", 2, () -> x.plan(0));
        is("10: their days", "01@6 10@7", () -> plan(x, 2));
        is("10: it has fixtures", STATE, () -> x.plan(0));
        is("10: no more fixtures", INDEX, () -> x.stateOf(2));

        Goalmouth three = league(3, 0);
        is("10: three clubs", 6, () -> three.plan(0));
        is("10: three clubs, a day each", "01@1 02@2 10@3 12@4 20@5 21@6", () -> plan(three, 6));

        Goalmouth four = league(4, 0);
        is("10: four clubs", 12, () -> four.plan(0));
        is("10: four clubs, six days",
            "01@1 02@2 03@3 10@4 12@3 13@2 20@5 21@6 23@1 30@6 31@5 32@4", () -> plan(four, 12));

        Goalmouth shared = new Goalmouth();
        for (int ground : new int[] {0, 0, 1, 1}) {
            shared.addClub(1, ground, 0);
        }
        shared.strike(0, true);
        is("10: shared grounds, a struck club too", 12, () -> shared.plan(1));
        is("10: no ground twice a day", true, () -> noGroundTwice(shared));

        Goalmouth crowded = new Goalmouth();
        for (int ground : new int[] {0, 1, 1, 1}) {
            crowded.addClub(0, ground, 0);
        }
        is("10: one ground for three of four", NO_ELEMENT, () -> crowded.plan(0));
        is("10: nothing was planned", INDEX, () -> crowded.stateOf(0));

        Goalmouth derbies = league(4, 0);
        derbies.setDerby(0, 1, true);
        derbies.setDerby(2, 3, true);
        is("10: both derbies of a day", NO_ELEMENT, () -> derbies.plan(0));
        derbies.setDerby(3, 2, false);
        derbies.setDerby(0, 2, true);
        is("10: derbies that can be apart", 12, () -> derbies.plan(0));

        Goalmouth twice = new Goalmouth();
        for (int i = 0; i < 4; i++) {
            twice.addClub(i / 2, i, 0);
        }
        twice.setDerby(0, 1, true);
        twice.setDerby(2, 3, true);
        twice.plan(0);
        is("10: derbies of the other division do not matter", 2, () -> twice.plan(1));
        is("10: derbies of both on a day", "01@1 10@2 23@1 32@2", () -> plan(twice, 4));

        Goalmouth both = new Goalmouth();
        both.addClub(1, 0, 0);
        both.addClub(0, 0, 0);
        both.addClub(1, 0, 0);
        both.addClub(0, 0, 0);
        both.plan(1);
        is("10: the other division does not matter", 2, () -> both.plan(0));
        is("10: fixtures go on behind it", "02@1 20@2 13@1 31@2", () -> plan(both, 4));
    }

    private static boolean noGroundTwice(Goalmouth x) {
        for (int i = 0; i < 12; i++) {
            for (int j = i + 1; j < 12; j++) {
                boolean isSameGround = x.fixture(i, 'h') / 2 == x.fixture(j, 'h') / 2;
                if (isSameGround && x.fixture(i, 'd') == x.fixture(j, 'd')) {
                    return false;
                }
            }
        }
        return true;
    }

    private static void putOff() {
        Goalmouth x = new Goalmouth();
        for (int i = 0; i < 4; i++) {
            x.addClub(0, i == 3 ? 2 : i, 0);
        }
        x.addClub(1, 0, 0);
        x.addClub(1, 5, 0);
        for (int i = 0; i < 6; i++) {
            x.addPlayer(i);
        }
        x.plan(0);
        x.plan(1);
        is("11: no fixture", INDEX, () -> x.putOff(14, 0));
        is("11: fixture -1", INDEX, () -> x.putOff(-1, 9));
        is("11: the same day", ARGUMENT, () -> x.putOff(0, x.fixture(0, 'd')));
        is("11: an earlier day", ARGUMENT, () -> x.putOff(0, 0));
        is("11: a day of both clubs' others", UNSUPPORTED, () -> x.putOff(0, 2));
        is("11: it stays", 1, () -> x.fixture(0, 'd'));
        is("11: a free day", 1, () -> x.putOff(0, 20));
        is("11: its new day", 20, () -> x.fixture(0, 'd'));
        is("11: back is not later", ARGUMENT, () -> x.putOff(0, 19));
        // Fixture 12 is of club 4 at home, on the ground of club 0, and fixture 0 is there on day 20.
        is("11: the ground of the other division", UNSUPPORTED, () -> x.putOff(12, 20));
        is("11: another ground", 2, () -> x.putOff(13, 20));
        is("11: a club of its own, away", UNSUPPORTED, () -> x.putOff(3, 20));
        x.goOn(21);
        is("11: not later than today", ARGUMENT, () -> x.putOff(0, 21));
        is("11: behind its day", 20, () -> x.putOff(0, 22));
        x.goOn(1);
        x.name(0, true, 0);
        x.name(0, false, 1);
        x.kickOff(0);
        is("11: on, the same day", ARGUMENT, () -> x.putOff(0, 22));
        is("11: on", UNSUPPORTED, () -> x.putOff(0, 30));
        x.end();
        is("11: over", UNSUPPORTED, () -> x.putOff(0, 30));

        Goalmouth y = league(3, 1);
        y.plan(0);
        play(y, 0, 0, 1, 0);
        is("11: planned, clubs taken", UNSUPPORTED, () -> y.putOff(1, 3));
        is("11: as late as can be", 2, () -> y.putOff(1, Integer.MAX_VALUE));
        is("11: the day was freed", 3, () -> y.putOff(2, 7));

        // Two clubs of two divisions, on one ground: a match that is over there does not hinder.
        Goalmouth z = new Goalmouth();
        z.addClub(0, 3, 0);
        z.addClub(0, 4, 0);
        z.addClub(1, 3, 0);
        z.addClub(1, 5, 0);
        for (int i = 0; i < 4; i++) {
            z.addPlayer(i);
        }
        z.plan(0);
        z.plan(1);
        is("11: ground free on that day", 1, () -> z.putOff(2, 4));
        is("11: ground of the home club alone", UNSUPPORTED, () -> z.putOff(0, 4));
        is("11: the away club's ground does not matter", 2, () -> z.putOff(1, 4));
        z.strike(2, true);
        is("11: a struck club's fixture hinders, too", UNSUPPORTED, () -> z.putOff(0, 4));
    }

    private static void fixtureAndState() {
        Goalmouth x = league(3, 1);
        is("12: none", INDEX, () -> x.fixture(0, 'h'));
        is("12: none of nothing", INDEX, () -> x.fixture(0, 'x'));
        is("13: none", INDEX, () -> x.stateOf(0));
        x.plan(0);
        is("12: home", 1, () -> x.fixture(3, 'h'));
        is("12: away", 2, () -> x.fixture(3, 'a'));
        is("12: day", 4, () -> x.fixture(3, 'd'));
        is("12: no such thing", ARGUMENT, () -> x.fixture(3, 'D'));
        is("12: no such thing at all", ARGUMENT, () -> x.fixture(3, '\0'));
        is("12: fixture -1", INDEX, () -> x.fixture(-1, 'h'));
        is("12: fixture 6", INDEX, () -> x.fixture(6, 'h'));
        is("13: fixture -1", INDEX, () -> x.stateOf(-1));
        is("13: fixture 6", INDEX, () -> x.stateOf(6));
        is("13: planned", 'p', () -> x.stateOf(0));
        begin(x, 0, 0, 1);
        is("13: on", 'k', () -> x.stateOf(0));
        x.end();
        is("13: over", 'f', () -> x.stateOf(0));
        begin(x, 1, 0, 2);
        x.abandon(true);
        is("13: abandoned", 'a', () -> x.stateOf(1));
        is("13: the others are planned", 'p', () -> x.stateOf(2));
    }

    private static void name() {
        Goalmouth x = league(2, 7);
        is("14: no fixture", INDEX, () -> x.name(0, true, 0));
        x.plan(0);
        is("14: fixture -1", INDEX, () -> x.name(-1, true, 0));
        is("14: no player", INDEX, () -> x.name(0, true, 14));
        is("14: player -1", INDEX, () -> x.name(0, true, -1));
        for (int i = 0; i < 5; i++) {
            int player = i;
            is("14: home " + i, i + 1, () -> x.name(0, true, player));
        }
        is("14: a sixth", STATE, () -> x.name(0, true, 5));
        is("14: a named one is no sixth", ARGUMENT, () -> x.name(0, true, 4));
        is("14: named for the other side", ARGUMENT, () -> x.name(0, false, 4));
        is("14: of the other club", 1, () -> x.name(0, false, 5));
        is("14: away", 2, () -> x.name(0, false, 7));
        is("14: for another fixture, too", 1, () -> x.name(1, true, 4));
        x.goOn(1);
        x.kickOff(0);
        is("14: on", UNSUPPORTED, () -> x.name(0, false, 8));
        is("14: on, a named one", UNSUPPORTED, () -> x.name(0, false, 7));
        is("14: on, no player", INDEX, () -> x.name(0, false, 14));
        is("14: another one while a match is on", 2, () -> x.name(1, true, 0));
        x.end();
        is("14: over", UNSUPPORTED, () -> x.name(0, false, 8));
        is("14: the other day", 1, () -> x.name(1, false, 1));
    }

    private static void kickOff() {
        Goalmouth x = new Goalmouth();
        for (int i = 0; i < 4; i++) {
            x.addClub(i / 2, i, 0);
            x.addPlayer(i);
        }
        x.plan(0);
        x.plan(1);
        is("15: no fixture", INDEX, () -> x.kickOff(4));
        is("15: fixture -1", INDEX, () -> x.kickOff(-1));
        is("15: before its day", UNSUPPORTED, () -> x.kickOff(0));
        x.goOn(1);
        is("15: nobody is named", UNSUPPORTED, () -> x.kickOff(0));
        x.name(0, true, 0);
        is("15: no away side", UNSUPPORTED, () -> x.kickOff(0));
        x.name(0, false, 1);
        x.name(2, false, 3);
        is("15: no home side", UNSUPPORTED, () -> x.kickOff(2));
        is("15: it kicks off", 0, () -> x.kickOff(0));
        is("15: it is on", UNSUPPORTED, () -> x.kickOff(0));
        is("15: no home side while one is on", UNSUPPORTED, () -> x.kickOff(2));
        x.name(2, true, 2);
        is("15: another is on", STATE, () -> x.kickOff(2));
        is("15: that one is planned", 'p', () -> x.stateOf(2));
        x.end();
        is("15: now it can", 0, () -> x.kickOff(2));
        x.end();
        is("15: over", UNSUPPORTED, () -> x.kickOff(2));
        x.name(1, true, 1);
        x.name(1, false, 0);
        x.goOn(2);
        is("15: behind its day", UNSUPPORTED, () -> x.kickOff(1));
        x.putOff(1, 4);
        x.goOn(1);
        is("15: put off to today, named before", 0, () -> x.kickOff(1));
    }

    private static void rights() {
        Goalmouth x = league(3, 4);
        x.setWindow(0, 9999);
        x.plan(0);
        // 0..3 of club 0, 4..7 of club 1, 8..11 of club 2. Fixture 0 is 0 against 1.
        x.lend(4, 0);
        x.lend(8, 0);
        x.sell(5, 0, 1);
        x.lend(0, 2);
        x.goOn(1);
        x.name(0, true, 4);
        x.name(0, true, 8);
        x.name(0, true, 5);
        x.name(0, true, 0);
        x.name(0, false, 6);
        x.name(0, false, 9);
        // 4 is lent by the other club, 0 and 9 are registered elsewhere; 8, 5 and 6 may play.
        is("15: three are not eligible", 3, () -> x.kickOff(0));
        is("15: a later deal changes no right", 0, () -> x.callBack(8));
        x.callBack(4);
        x.callBack(0);
        is("25: home is guilty", true, () -> x.isGuilty(0, true));
        is("25: away is, too", true, () -> x.isGuilty(0, false));
        x.end();
        is("26: both have lost", 0, () -> x.resultOf(0));
        is("30: no points", 0, () -> x.points(0));

        // A player who is named before he is bought may play when it kicks off.
        x.name(1, true, 9);
        x.name(1, false, 8);
        x.sell(9, 0, 1);
        x.goOn(1);
        is("15: bought before it kicks off", 0, () -> x.kickOff(1));
        x.lend(10, 1);
        x.lend(1, 2);
        is("18: of the other club, lent elsewhere", 1, () -> x.change(9, 10));
        is("25: home is guilty by one who came", true, () -> x.isGuilty(1, true));
        is("18: lent by the other club", 1, () -> x.change(8, 1));
        is("25: away is guilty by one who came", true, () -> x.isGuilty(1, false));
        x.end();
    }

    private static void goal() {
        Goalmouth x = league(2, 3);
        x.plan(0);
        is("16: no player", INDEX, () -> x.goal(6));
        is("16: player -1", INDEX, () -> x.goal(-1));
        is("16: no match", STATE, () -> x.goal(0));
        begin(x, 0, 0, 3);
        is("16: no player, match on", INDEX, () -> x.goal(6));
        is("16: not on the field", UNSUPPORTED, () -> x.goal(1));
        is("16: home", 10, () -> x.goal(0));
        is("16: away", 11, () -> x.goal(3));
        for (int i = 2; i <= 9; i++) {
            is("16: away " + i, 10 + i, () -> x.goal(3));
        }
        is("16: a tenth", UNSUPPORTED, () -> x.goal(3));
        is("16: home goes on", 29, () -> x.goal(0));
        x.change(0, 1);
        is("16: who went", UNSUPPORTED, () -> x.goal(0));
        is("16: who came", 39, () -> x.goal(1));
        x.card(1, true);
        is("16: who was sent off", UNSUPPORTED, () -> x.goal(1));
        is("19: as it was", 39, () -> x.end());
        is("16: over", STATE, () -> x.goal(3));
    }

    private static void card() {
        Goalmouth x = league(2, 3);
        x.plan(0);
        is("17: no player", INDEX, () -> x.card(6, true));
        is("17: player -1", INDEX, () -> x.card(-1, true));
        is("17: no match", STATE, () -> x.card(0, true));
        begin(x, 0, 0, 3);
        is("17: not on the field", UNSUPPORTED, () -> x.card(1, false));
        is("17: the first card", 0, () -> x.card(0, false));
        is("17: he plays on", 10, () -> x.goal(0));
        is("17: his second one", 1, () -> x.card(0, false));
        is("17: he is off", UNSUPPORTED, () -> x.card(0, false));
        is("17: he cannot be changed", UNSUPPORTED, () -> x.change(0, 1));
        is("17: a yellow one", 2, () -> x.card(3, false));
        is("17: cancelled", false, () -> x.appeal(2, true));
        is("17: a second one, as shown", 3, () -> x.card(3, false));
        is("17: sent off, as shown", UNSUPPORTED, () -> x.goal(3));
        x.end();
        is("23: nothing for one card of two", 0, () -> x.ban(3));
        is("24: one counts", 1, () -> x.yellows(3));
        is("17: over", STATE, () -> x.card(0, true));
        begin(x, 1, 4, 1);
        is("17: numbers go on", 4, () -> x.card(4, true));
        is("17: a red one sends off", UNSUPPORTED, () -> x.goal(4));
        is("17: cancelled at once", false, () -> x.appeal(4, true));
        is("17: he stays off", UNSUPPORTED, () -> x.goal(4));
    }

    private static void change() {
        Goalmouth x = league(2, 7);
        x.plan(0);
        is("18: no player", INDEX, () -> x.change(14, 0));
        is("18: no other player", INDEX, () -> x.change(0, 14));
        is("18: player -1", INDEX, () -> x.change(0, -1));
        is("18: no match", STATE, () -> x.change(0, 1));
        x.goOn(1);
        x.name(0, true, 0);
        x.name(0, true, 1);
        x.name(0, false, 7);
        x.kickOff(0);
        is("18: not on the field", UNSUPPORTED, () -> x.change(2, 3));
        is("18: for himself", UNSUPPORTED, () -> x.change(0, 0));
        is("18: for a named one", UNSUPPORTED, () -> x.change(0, 1));
        is("18: for one of the other side", UNSUPPORTED, () -> x.change(0, 7));
        is("18: the first", 1, () -> x.change(0, 2));
        is("18: who went does not come back", UNSUPPORTED, () -> x.change(1, 0));
        is("18: the second", 2, () -> x.change(2, 3));
        is("18: who came does not come back", UNSUPPORTED, () -> x.change(1, 2));
        is("18: the third", 3, () -> x.change(1, 4));
        is("18: a fourth", UNSUPPORTED, () -> x.change(3, 5));
        is("18: he stays", 10, () -> x.goal(3));
        is("18: the other side's first", 1, () -> x.change(7, 8));
        is("18: who came for the other side", UNSUPPORTED, () -> x.change(8, 4));
        is("25: home is not guilty", false, () -> x.isGuilty(0, true));
        is("18: one of the other club", 2, () -> x.change(8, 5));
        is("25: away is guilty", true, () -> x.isGuilty(0, false));
        x.end();
        is("18: over", STATE, () -> x.change(3, 6));
    }

    private static void end() {
        Goalmouth x = league(2, 2);
        x.plan(0);
        is("19: no match", STATE, () -> x.end());
        begin(x, 0, 0, 1);
        x.goal(0);
        x.goal(1);
        x.goal(1);
        is("19: as it was, though away is guilty", 12, () -> x.end());
        is("26: as it counts", 30, () -> x.resultOf(0));
        is("19: over", STATE, () -> x.end());
    }

    private static void abandon() {
        Goalmouth x = league(2, 1);
        x.plan(0);
        is("20: no match", STATE, () -> x.abandon(true));
        begin(x, 0, 0, 1);
        x.goal(0);
        x.card(1, false);
        is("20: by home", 0, () -> x.abandon(true));
        is("26: home has lost", 3, () -> x.resultOf(0));
        is("30: away has won", 3, () -> x.points(1));
        is("24: its cards count", 1, () -> x.yellows(1));
        is("25: nobody was guilty", false, () -> x.isGuilty(0, true));
        is("20: over", STATE, () -> x.abandon(true));
        begin(x, 1, 1, 0);
        is("20: by away", 1, () -> x.abandon(false));
        is("26: away has lost", 30, () -> x.resultOf(1));
    }

    private static void appeal() {
        Goalmouth x = league(2, 2);
        x.plan(0);
        begin(x, 0, 0, 2);
        is("21: no card", INDEX, () -> x.appeal(0, true));
        x.card(0, true);
        is("21: card -1", INDEX, () -> x.appeal(-1, true));
        is("21: card 1", INDEX, () -> x.appeal(1, true));
        is("21: was not", false, () -> x.appeal(0, false));
        is("21: was not yet", false, () -> x.appeal(0, true));
        is("21: was", true, () -> x.appeal(0, true));
        x.end();
        is("23: it does not count", 0, () -> x.ban(0));
        is("21: it counts again", true, () -> x.appeal(0, false));
        is("23: it counts", 3, () -> x.ban(0));
        x.strike(0, true);
        x.endSeason();
        is("23: bans stay", 3, () -> x.ban(0));
        is("21: a card of an earlier season", false, () -> x.appeal(0, true));
        is("23: gone", 0, () -> x.ban(0));
    }

    private static void appealTurnsResults() {
        Goalmouth x = league(3, 2);
        x.plan(0);
        // 0 sees red in fixture 0 and plays in 1 all the same.
        begin(x, 0, 0, 2);
        x.card(0, true);
        x.end();
        play(x, 1, 0, 4, 10);
        is("25: guilty", true, () -> x.isGuilty(1, true));
        is("26: turned", 3, () -> x.resultOf(1));
        play(x, 2, 2, 1, 0);
        is("30: two drawn", 2, () -> x.points(0));
        is("21: cancelled", false, () -> x.appeal(0, true));
        is("26: turned back", 10, () -> x.resultOf(1));
        is("30: one won, two drawn", 5, () -> x.points(0));
        is("21: counts again", true, () -> x.appeal(0, false));
        is("26: turned again", 3, () -> x.resultOf(1));
        is("25: guilty again", true, () -> x.isGuilty(1, true));
        is("37: sound", true, () -> x.isSound());

        // While a match is on, an appeal rules who was eligible as it kicked off.
        begin(x, 4, 4, 0);
        is("25: away guilty while on", true, () -> x.isGuilty(4, false));
        x.appeal(0, true);
        is("25: no longer", false, () -> x.isGuilty(4, false));
    }

    private static void wipe() {
        Goalmouth x = league(2, 3);
        x.plan(0);
        is("22: nobody", 0, () -> x.wipe());
        x.goOn(1);
        for (int i = 0; i < 3; i++) {
            x.name(0, true, i);
            x.name(0, false, 3 + i);
        }
        x.kickOff(0);
        x.card(0, false);
        x.card(3, false);
        x.card(4, true);
        x.card(5, false);
        x.card(5, false);
        is("22: a match is on", STATE, () -> x.wipe());
        x.end();
        is("24: before", 1, () -> x.yellows(0));
        is("22: those with one yellow card", 2, () -> x.wipe());
        is("24: wiped", 0, () -> x.yellows(0));
        is("23: bans stay", 3, () -> x.ban(4));
        is("23: that of two yellow ones, too", 1, () -> x.ban(5));
        is("22: nobody any more", 0, () -> x.wipe());
        x.appeal(3, true);
        is("24: one of before the wipe does not count", 0, () -> x.yellows(5));
        is("23: and the ban is gone", 0, () -> x.ban(5));
    }

    private static void bans() {
        Goalmouth x = league(2, 4);
        x.plan(0);
        is("23: no player", INDEX, () -> x.ban(8));
        is("23: player -1", INDEX, () -> x.ban(-1));
        x.goOn(1);
        for (int i = 0; i < 4; i++) {
            x.name(0, true, i);
        }
        x.name(0, false, 4);
        x.kickOff(0);
        x.card(0, true);
        x.card(1, false);
        x.card(1, false);
        x.card(2, false);
        x.card(3, false);
        x.card(3, true);
        is("23: cards count when it is over", 0, () -> x.ban(0));
        x.end();
        is("23: red", 3, () -> x.ban(0));
        is("23: two yellow ones", 1, () -> x.ban(1));
        is("24: two yellow ones are not added", 0, () -> x.yellows(1));
        is("23: one yellow one", 0, () -> x.ban(2));
        is("24: it is added", 1, () -> x.yellows(2));
        is("23: yellow, then red", 3, () -> x.ban(3));
        is("24: the yellow one is not added", 0, () -> x.yellows(3));
        x.appeal(5, true);
        is("23: without the red one", 0, () -> x.ban(3));
        is("24: the yellow one is added", 1, () -> x.yellows(3));
    }

    /** Who serves: registered at one of both clubs when it is over, neither named nor come on. */
    private static void bansServed() {
        Goalmouth x = league(3, 4);
        x.setWindow(0, 9999);
        x.plan(0);
        // 0..3 of club 0, 4..7 of club 1, 8..11 of club 2.
        x.goOn(1);
        x.name(0, true, 0);
        x.name(0, true, 1);
        x.name(0, true, 2);
        x.name(0, true, 3);
        x.name(0, false, 4);
        x.kickOff(0);
        x.card(0, true);
        x.card(1, true);
        x.card(2, true);
        x.card(3, true);
        x.end();
        // Fixture 1: club 0 against club 2. 0 is named, 1 rests, 2 is lent to club 1, 3 comes back from there.
        x.lend(2, 1);
        x.lend(3, 1);
        x.goOn(1);
        x.name(1, true, 0);
        x.name(1, false, 8);
        is("15: one has a ban left", 1, () -> x.kickOff(1));
        x.callBack(3);
        x.end();
        is("23: who was named serves nothing", 3, () -> x.ban(0));
        is("23: who rests serves", 2, () -> x.ban(1));
        is("23: who is lent elsewhere serves nothing", 3, () -> x.ban(2));
        is("23: who was called back before its end serves", 2, () -> x.ban(3));
        // Fixture 3: club 1 against club 2, where 2 is now, and 1 comes on for the wrong club.
        x.goOn(2);
        x.name(3, true, 4);
        x.name(3, false, 9);
        x.kickOff(3);
        x.lend(1, 2);
        x.change(9, 1);
        x.abandon(true);
        is("23: who came on serves nothing", 2, () -> x.ban(1));
        is("23: abandoned matches are served, too", 2, () -> x.ban(2));
        is("23: clubs that did not play serve nothing", 2, () -> x.ban(3));
        is("25: who came on with a ban", true, () -> x.isGuilty(3, false));
        is("26: both have lost", 0, () -> x.resultOf(3));
        // Three more matches in which nobody of them plays leave no ban, and none below zero.
        play(x, 2, 4, 5, 0);
        play(x, 4, 8, 4, 0);
        play(x, 5, 8, 5, 0);
        is("23: served", 0, () -> x.ban(2));
        is("23: no less than none", 0, () -> x.ban(4));
    }

    private static void yellows() {
        Goalmouth x = league(2, 2);
        is("24: no player", INDEX, () -> x.yellows(4));
        is("24: player -1", INDEX, () -> x.yellows(-1));
        int cards = 0;
        for (int season = 0; season < 3; season++) {
            x.plan(0);
            for (int fixture = 0; fixture < 2; fixture++) {
                begin(x, fixture, fixture == 0 ? 0 : 2, fixture == 0 ? 2 : 0);
                x.card(0, false);
                cards++;
                x.end();
                int sum = fixture + 1;
                is("24: card " + cards, sum, () -> x.yellows(0));
                is("23: no ban yet", 0, () -> x.ban(0));
            }
            x.endSeason();
            is("24: wiped by the season's end", 0, () -> x.yellows(0));
        }

        // One season of four clubs gives six cards: the third and the sixth give a ban.
        Goalmouth y = league(4, 1);
        y.plan(0);
        int[] due = {0, 0, 1, 1, 1, 2};
        int had = 0;
        for (int day = 1; day <= 6; day++) {
            y.goOn(1);
            for (int f = 0; f < 12; f++) {
                int fixture = f;
                if (y.fixture(f, 'd') == day && (y.fixture(f, 'h') == 0 || y.fixture(f, 'a') == 0)) {
                    y.name(fixture, true, y.fixture(f, 'h'));
                    y.name(fixture, false, y.fixture(f, 'a'));
                    y.kickOff(fixture);
                    y.card(0, false);
                    y.end();
                    int ban = due[had++];
                    int sum = had;
                    is("24: " + sum + " cards", sum, () -> y.yellows(0));
                    is("23: behind " + sum + " cards", ban, () -> y.ban(0));
                }
            }
        }
        is("21: the first is cancelled", false, () -> y.appeal(0, true));
        is("24: five are left", 5, () -> y.yellows(0));
        is("23: one third among them", 1, () -> y.ban(0));
        is("25: the fourth match was without ban", false, () -> y.isGuilty(3, false));
    }

    private static void isGuilty() {
        Goalmouth x = league(2, 1);
        is("25: no fixture", INDEX, () -> x.isGuilty(0, true));
        x.plan(0);
        is("25: fixture -1", INDEX, () -> x.isGuilty(-1, true));
        is("25: planned", UNSUPPORTED, () -> x.isGuilty(0, true));
        begin(x, 0, 1, 0);
        is("25: on, home", true, () -> x.isGuilty(0, true));
        is("25: on, away", true, () -> x.isGuilty(0, false));
        x.end();
        is("25: over", true, () -> x.isGuilty(0, true));
        begin(x, 1, 1, 0);
        is("25: nobody is", false, () -> x.isGuilty(1, true));
        x.abandon(true);
        is("25: by the match's being abandoned nobody is", false, () -> x.isGuilty(1, true));
    }

    private static void resultOf() {
        Goalmouth x = league(3, 1);
        is("26: no fixture", INDEX, () -> x.resultOf(0));
        x.plan(0);
        is("26: fixture -1", INDEX, () -> x.resultOf(-1));
        is("26: planned", UNSUPPORTED, () -> x.resultOf(0));
        begin(x, 0, 0, 1);
        is("26: on", UNSUPPORTED, () -> x.resultOf(0));
        x.goal(0);
        x.goal(0);
        x.goal(1);
        x.end();
        is("26: over", 21, () -> x.resultOf(0));
        begin(x, 1, 1, 2);
        x.goal(1);
        x.end();
        is("26: home was guilty", 3, () -> x.resultOf(1));
        begin(x, 2, 1, 2);
        x.goal(2);
        x.end();
        is("26: away was guilty", 30, () -> x.resultOf(2));
        begin(x, 3, 0, 2);
        x.goal(2);
        x.abandon(false);
        is("26: guilty and at fault", 0, () -> x.resultOf(3));
        begin(x, 4, 1, 0);
        x.goal(0);
        x.abandon(true);
        is("26: one side both ways", 3, () -> x.resultOf(4));
        begin(x, 5, 0, 1);
        x.goal(1);
        x.end();
        is("26: guilty with a goal against", 3, () -> x.resultOf(5));
    }

    private static void takePoints() {
        Goalmouth x = league(2, 1);
        is("27: no club", INDEX, () -> x.takePoints(2, 0));
        is("27: club -1", INDEX, () -> x.takePoints(-1, 1));
        is("27: 0 points", ARGUMENT, () -> x.takePoints(0, 0));
        is("27: 31 points", ARGUMENT, () -> x.takePoints(0, 31));
        is("27: 30 points", 30, () -> x.takePoints(0, 30));
        is("27: 1 more", 31, () -> x.takePoints(0, 1));
        is("27: the other", 1, () -> x.takePoints(1, 1));
        is("30: below nothing", -31, () -> x.points(0));
        is("29: the last", 0, () -> x.clubAt(0, 1));
        x.endSeason();
        is("30: given back", 0, () -> x.points(0));
        is("27: a new season", 2, () -> x.takePoints(0, 2));
        x.plan(0);
        begin(x, 0, 0, 1);
        is("27: while a match is on", 4, () -> x.takePoints(0, 2));
    }

    private static void strike() {
        Goalmouth x = league(3, 1);
        is("28: no club", INDEX, () -> x.strike(3, true));
        is("28: club -1", INDEX, () -> x.strike(-1, true));
        is("28: not before", false, () -> x.strike(0, true));
        is("28: before", true, () -> x.strike(0, true));
        is("28: taken back", true, () -> x.strike(0, false));
        is("28: not any more", false, () -> x.strike(0, false));
        x.plan(0);
        play(x, 0, 0, 1, 10);
        play(x, 1, 0, 2, 1);
        is("30: before", 3, () -> x.points(2));
        begin(x, 2, 1, 0);
        is("28: no club while a match is on", INDEX, () -> x.strike(3, true));
        is("28: a match is on", STATE, () -> x.strike(0, true));
        x.end();
        x.strike(0, true);
        is("30: matches with a struck club do not count", 0, () -> x.points(2));
        is("29: it is the last", 0, () -> x.clubAt(0, 2));
        is("29: the others by numbers", 1, () -> x.clubAt(0, 0));
        x.takePoints(0, 5);
        is("30: a struck one has 0", 0, () -> x.points(0));
        is("26: results stay", 10, () -> x.resultOf(0));
        x.strike(0, false);
        is("30: they count again", 3, () -> x.points(2));
        is("30: so do the points taken", 4 - 5, () -> x.points(0));
        x.strike(2, true);
        x.strike(1, true);
        is("29: struck ones by numbers", 1, () -> x.clubAt(0, 1));
        is("29: struck ones by numbers, the last", 2, () -> x.clubAt(0, 2));
    }

    private static void clubAt() {
        Goalmouth x = new Goalmouth();
        is("29: division -1", ARGUMENT, () -> x.clubAt(-1, -1));
        is("29: division 2", ARGUMENT, () -> x.clubAt(2, 0));
        is("29: no place", INDEX, () -> x.clubAt(0, 0));
        x.addClub(1, 0, 0);
        x.addClub(0, 0, 0);
        x.addClub(1, 0, 0);
        is("29: place -1", INDEX, () -> x.clubAt(1, -1));
        is("29: place 2", INDEX, () -> x.clubAt(1, 2));
        is("29: the first", 0, () -> x.clubAt(1, 0));
        is("29: the second", 2, () -> x.clubAt(1, 1));
        is("29: of the other", 1, () -> x.clubAt(0, 0));
        is("29: none more of the other", INDEX, () -> x.clubAt(0, 1));
    }

    private static String table(Goalmouth x, int clubs) {
        StringBuilder text = new StringBuilder();
        for (int i = 0; i < clubs; i++) {
            text.append(x.clubAt(0, i));
        }
        return text.toString();
    }

    /** Plays all of four clubs, each with one player; scores by fixture number, -1 for none. */
    private static Goalmouth season(int... scores) {
        Goalmouth x = league(4, 1);
        x.plan(0);
        for (int day = 1; day <= 6; day++) {
            x.goOn(1);
            for (int f = 0; f < scores.length; f++) {
                if (scores[f] >= 0 && x.fixture(f, 'd') == day) {
                    x.name(f, true, x.fixture(f, 'h'));
                    x.name(f, false, x.fixture(f, 'a'));
                    x.kickOff(f);
                    for (int i = 0; i < scores[f] / 10; i++) {
                        x.goal(x.fixture(f, 'h'));
                    }
                    for (int i = 0; i < scores[f] % 10; i++) {
                        x.goal(x.fixture(f, 'a'));
                    }
                    x.end();
                }
            }
        }
        return x;
    }

    /** Fixtures of four clubs: 0-1 0-2 0-3, 1-0 1-2 1-3, 2-0 2-1 2-3, 3-0 3-1 3-2. */
    private static void tableTies() {
        // 2 beat 1 and lost by much to 3; 1 beat 3 by more: both have 3 points, 1 is far better by all goals.
        Goalmouth direct = season(-1, -1, -1, -1, -1, 90, -1, 10, -1, -1, -1, -1);
        is("29: direct matches before all goals", "2103", () -> table(direct, 4));

        // 0, 1 and 2 beat each other once, with 1-0, 1-0 and 2-0; 3 lost to all by different scores.
        // Among 0, 1, 2: 0 beat 1 by 1, 1 beat 2 by 2, 2 beat 0 by 1: goals 0: 0, 1: +1, 2: -1.
        Goalmouth ring = season(10, -1, -1, -1, 20, -1, 10, -1, -1, -1, -1, -1);
        is("29: a ring by its own goals", "1023", () -> table(ring, 4));

        // A ring of 1-0 each: alike, so by all goals less those against: 2 beat 3 by 3, 0 and 1 by 1.
        Goalmouth whole = season(10, -1, 10, -1, 10, 21, 10, -1, 30, -1, -1, -1);
        is("29: a ring by all goals less those against, then by all goals", "2103", () -> table(whole, 4));

        // A ring that leaves 1 and 2 alike and 0 behind: then the match of 1 and 2 alone decides.
        // 0 beat 1 by 1 and lost to 2 by 3; 1 beat 2 by 2: goals 0: -2, 1: +1, 2: +1. 1 beat 2.
        // By all goals 2 is far ahead: 9-0 and 9-0 against 3, where 1 has 1-0 and 1-0.
        Goalmouth anew = season(10, -1, 10, -1, 20, 10, 30, -1, 90, -1, -1, -1);
        is("29: alike ones by a table made anew", "1203", () -> table(anew, 4));

        Goalmouth same = season(11, -1, -1, -1, -1, -1, -1, -1, 11, -1, -1, -1);
        is("29: alike in all, by numbers", "0123", () -> table(same, 4));
        Goalmouth goals = season(11, -1, -1, -1, -1, -1, -1, -1, 22, -1, -1, -1);
        is("29: alike but for all goals", "2301", () -> table(goals, 4));

        // Points taken make clubs alike, but do not count among them: 0 beat 1 and loses 3 points.
        Goalmouth taken = season(10, -1, -1, -1, -1, -1, -1, -1, -1, -1, -1, -1);
        taken.takePoints(0, 3);
        is("29: points taken do not count among them", "0231", () -> table(taken, 4));
        taken.takePoints(0, 1);
        is("29: but in the table", "2310", () -> table(taken, 4));

        // Among 0, 1 and 2 points come first, however far behind by goals: 2 has 8, 0 has 3 and 1-18, 1 has 2 and 0-1.
        Goalmouth far = season(10, 9, -1, -1, 0, -1, 90, 0, -1, -1, -1, -1);
        far.takePoints(2, 6);
        far.takePoints(0, 1);
        is("29: among them points before goals", "2013", () -> table(far, 4));

        // 0 and 1 have one point each and did not meet: 1 has 1-0, 0 has 9-9.
        Goalmouth many = season(-1, -1, 99, -1, 10, -1, -1, -1, -1, -1, -1, -1);
        many.takePoints(1, 2);
        many.takePoints(3, 9);
        is("29: goals less those against before all goals", "1023", () -> table(many, 4));
    }

    private static void points() {
        Goalmouth x = league(3, 1);
        is("30: no club", INDEX, () -> x.points(3));
        is("30: club -1", INDEX, () -> x.points(-1));
        x.plan(0);
        play(x, 0, 0, 1, 10);
        play(x, 1, 0, 2, 22);
        is("30: won and drawn", 4, () -> x.points(0));
        is("30: lost", 0, () -> x.points(1));
        is("30: drawn", 1, () -> x.points(2));
        begin(x, 2, 1, 0);
        x.goal(1);
        is("30: a match that is on", 0, () -> x.points(1));
        x.end();
        is("30: over", 3, () -> x.points(1));
        x.takePoints(1, 1);
        is("30: less points taken", 2, () -> x.points(1));
    }

    private static void endSeason() {
        Goalmouth x = league(3, 1);
        x.plan(0);
        is("33: a fixture is left", STATE, () -> x.endSeason());
        for (int i = 0; i < 5; i++) {
            play(x, i, x.fixture(i, 'h'), x.fixture(i, 'a'), 10);
        }
        x.takePoints(0, 2);
        begin(x, 5, 2, 1);
        x.card(1, false);
        is("33: one is on", STATE, () -> x.endSeason());
        is("33: nothing changed", 6 - 2, () -> x.points(0));
        x.end();
        is("24: before", 1, () -> x.yellows(1));
        x.strike(2, true);
        is("33: nobody goes up", -1, () -> x.endSeason());
        is("33: no fixtures", INDEX, () -> x.stateOf(0));
        is("33: no points taken", 0, () -> x.points(0));
        is("33: no strikes", false, () -> x.strike(2, false));
        is("33: cards wiped", 0, () -> x.yellows(1));
        is("35: no fixtures", ARITHMETIC, () -> x.overShare());
        is("33: planned anew", 6, () -> x.plan(0));
        is("13: numbered from 0", 'p', () -> x.stateOf(0));
        x.strike(0, true);
        is("33: a fixture of two others is left", STATE, () -> x.endSeason());
        x.strike(1, true);
        is("33: none but with struck clubs", -1, () -> x.endSeason());

        Goalmouth y = league(2, 1);
        y.plan(0);
        y.strike(0, true);
        begin(y, 0, 0, 1);
        y.card(1, true);
        is("33: a match with a struck club is on", -1, () -> y.endSeason());
        is("16: it is gone", STATE, () -> y.goal(1));
        is("23: it was never over", 0, () -> y.ban(1));
        is("21: its card is there", false, () -> y.appeal(0, true));
        is("5: days go by", 2, () -> y.goOn(1));
    }

    private static Goalmouth twoDivisions(int... grades) {
        Goalmouth x = new Goalmouth();
        for (int i = 0; i < 3; i++) {
            x.addClub(0, i, 3);
        }
        for (int grade : grades) {
            x.addClub(1, 5, grade);
        }
        return x;
    }

    private static void endSeasonMoves() {
        Goalmouth x = twoDivisions(1, 2, 3);
        is("33: the first that may", 4, () -> x.endSeason());
        is("31: it went up", 0, () -> x.divisionOf(4));
        is("31: the last went down", 1, () -> x.divisionOf(2));
        is("31: the others stay", 1, () -> x.divisionOf(3));
        is("31: no club", INDEX, () -> x.divisionOf(6));
        is("31: club -1", INDEX, () -> x.divisionOf(-1));

        Goalmouth none = twoDivisions(1, 0, 1);
        is("33: no grade is enough", -1, () -> none.endSeason());
        is("31: none went down", 0, () -> none.divisionOf(2));

        Goalmouth struck = twoDivisions(2, 3, 0);
        struck.strike(3, true);
        struck.strike(0, true);
        is("33: a struck one does not go up", 4, () -> struck.endSeason());
        is("31: a struck one is the last", 1, () -> struck.divisionOf(0));
        is("31: the last by points is not", 0, () -> struck.divisionOf(2));

        Goalmouth taken = twoDivisions(2, 2, 2);
        taken.takePoints(3, 1);
        taken.takePoints(0, 1);
        is("33: by the table", 4, () -> taken.endSeason());
        is("31: by the table, down", 1, () -> taken.divisionOf(0));

        Goalmouth empty = new Goalmouth();
        empty.addClub(1, 0, 2);
        is("33: an empty division 0", 0, () -> empty.endSeason());
        is("31: up it went", 0, () -> empty.divisionOf(0));
        is("33: an empty division 1", -1, () -> empty.endSeason());
        is("31: it stays", 0, () -> empty.divisionOf(0));
    }

    /** Bans and cards of a season go on counting in the next one, fixtures are numbered anew. */
    private static void seasonBehindSeason() {
        Goalmouth x = league(2, 2);
        x.plan(0);
        begin(x, 0, 0, 2);
        x.card(0, true);
        x.end();
        play(x, 1, 2, 1, 0);
        x.endSeason();
        is("23: one served, two left", 2, () -> x.ban(0));
        x.plan(0);
        begin(x, 0, 0, 2);
        x.goal(0);
        x.end();
        is("26: turned by a card of last season", 3, () -> x.resultOf(0));
        x.appeal(0, true);
        is("26: turned back by an appeal", 10, () -> x.resultOf(0));
        is("29: the table, too", 0, () -> x.clubAt(0, 0));
        is("37: sound", true, () -> x.isSound());
        is("32: no player", INDEX, () -> x.registered(4));
        is("32: player -1", INDEX, () -> x.registered(-1));
        is("32: registered", 1, () -> x.registered(3));
    }

    private static void money() {
        Goalmouth x = league(3, 1);
        is("34: three clubs", 3000L, () -> x.money());
        x.setWindow(0, 0);
        x.sell(0, 1, 777);
        x.sell(0, 2, 333);
        x.sell(0, 0, 1);
        is("34: deals leave it", 3000L, () -> x.money());
        x.addClub(1, 0, 0);
        is("34: four clubs", 4000L, () -> x.money());
    }

    private static void shares() {
        Goalmouth x = league(3, 1);
        is("35: no fixtures", ARITHMETIC, () -> x.overShare());
        is("36: no fixtures", ARITHMETIC, () -> x.meanGoals());
        x.plan(0);
        is("35: none over", 0.0f, () -> x.overShare());
        is("36: none over", ARITHMETIC, () -> x.meanGoals());
        play(x, 0, 0, 1, 12);
        is("35: one of six", 1.0f / 6.0f, () -> x.overShare());
        is("36: three goals", 3.0, () -> x.meanGoals());
        begin(x, 1, 0, 2);
        x.goal(2);
        is("35: one that is on", 1.0f / 6.0f, () -> x.overShare());
        is("36: one that is on", 3.0, () -> x.meanGoals());
        x.end();
        begin(x, 2, 1, 0);
        x.goal(1);
        x.abandon(true);
        is("35: one abandoned", 3.0f / 6.0f, () -> x.overShare());
        is("36: as they count", 7.0 / 3.0, () -> x.meanGoals());
        x.strike(0, true);
        is("36: those with a struck club, too", 7.0 / 3.0, () -> x.meanGoals());
        is("35: those with a struck club, too", 3.0f / 6.0f, () -> x.overShare());
        x.addClub(1, 0, 0);
        x.addClub(1, 1, 0);
        x.plan(1);
        is("35: of both divisions", 3.0f / 8.0f, () -> x.overShare());
    }

    private static void isSound() {
        Goalmouth x = league(2, 3);
        x.setWindow(0, 9999);
        x.plan(0);
        begin(x, 0, 0, 3);
        x.card(0, true);
        x.card(3, false);
        is("37: while a match is on", true, () -> x.isSound());
        x.end();
        x.sell(1, 1, 100);
        begin(x, 1, 1, 0);
        x.goal(0);
        is("37: a guilty one on", true, () -> x.isSound());
        x.end();
        is("37: a guilty one over", true, () -> x.isSound());
        x.appeal(0, true);
        is("37: behind an appeal", true, () -> x.isSound());
        is("23: it changes no ban", 0, () -> x.ban(0));
        is("24: and no yellow card", 1, () -> x.yellows(3));
        is("25: and no guilt", false, () -> x.isGuilty(1, false));
        is("26: and no result", 1, () -> x.resultOf(1));
    }
}
