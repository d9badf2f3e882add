/**
 * Each number that a call takes, at its least and its greatest, one below and one above, and the least and greatest
 * int; what is answered when there is nothing yet; and what is when there is as much as can be.
 */
public final class EdgesTest {
    private static final String MIN = "MIN";
    private static final String MAX = "MAX";

    public static void main(String[] args) {
        numbersOfClubsAndPlayers();
        numbersOfDeals();
        numbersOfFixtures();
        signsOfFixture();
        numbersInMatches();
        numbersOfMatches();
        numbersOfCards();
        numbersOfTables();
        daysOfPutOff();
        nothing();
        noPlayer();
        noFixture();
        noMatchOn();
        noneOfTheOtherDivision();
        fullDivisions();
        fullOfPlayers();
        fullOfFixtures();
        fullOfNamed();
        fullOfChanges();
        fullOfGoals();
        nobodyLeftOnTheField();
        manyCards();
        manyDays();
        muchMoney();
        manyPointsTaken();
        Due.finish();
    }

    /** In "call" the sign # stands for the number; each is asked of a federation of its own. */
    private static void number(String before, String call, int least, String first, int most, String last, String refused) {
        ask(before, call, Integer.toString(least), first);
        ask(before, call, Integer.toString(most), last);
        if (least > Integer.MIN_VALUE) {
            ask(before, call, Integer.toString(least - 1), refused);
            ask(before, call, MIN, refused);
        }
        if (most < Integer.MAX_VALUE) {
            ask(before, call, Integer.toString(most + 1), refused);
            ask(before, call, MAX, refused);
        }
    }

    private static void ask(String before, String call, String number, String due) {
        Script.run("numbers of " + call, before + call.replace("#", number) + " -> " + due);
    }

    // ---- each number at its edges ----

    private static void numbersOfClubsAndPlayers() {
        number("", "addClub # 0 0", 0, "0", 1, "0", "Argument");
        number("", "addClub 0 # 0", 0, "0", 7, "0", "Argument");
        number("", "addClub 1 0 #", 0, "0", 3, "0", "Argument");
        number("addClub 0 0 0;", "addPlayer #", 0, "0", 0, "0", "Index");
        String whole = Script.whole();
        number(whole.substring(0, whole.indexOf("addPlayer")), "addPlayer #", 0, "0", 7, "0", "Index");
        number(whole, "registered #", 0, "0", 23, "7", "Index");
        number(whole, "ban #", 0, "0", 23, "0", "Index");
        number(whole, "yellows #", 0, "0", 23, "0", "Index");
        number(whole, "divisionOf #", 0, "0", 7, "1", "Index");
        number(Script.league(2), "registered #", 0, "0", 1, "1", "Index");
        number(Script.league(2), "divisionOf #", 0, "0", 1, "0", "Index");
    }

    private static void numbersOfDeals() {
        number("", "setWindow # 9999", 0, "true", 9999, "false", "Argument");
        number("", "setWindow 0 #", 0, "true", 9999, "true", "Argument");
        number("", "goOn #", 1, "1", 99, "99", "Argument");
        String open = Script.whole() + "setWindow 0 0;";
        number(open, "sell # 3 10", 0, "990", 23, "990", "Index");
        number(open, "sell 9 # 10", 0, "990", 7, "990", "Index");
        number(open, "sell 0 1 #", 0, "1000", 9999, "Unsupported", "Argument");
        number(open, "lend # 3", 0, "0", 23, "7", "Index");
        number(open, "lend 9 #", 0, "3", 7, "3", "Index");
        number(open + "lend 0 3; lend 23 4;", "callBack #", 0, "3", 23, "4", "Index");
        number(open, "setDerby # 3 true", 0, "false", 7, "false", "Index");
        number(open, "setDerby 3 # true", 0, "false", 7, "false", "Index");
    }

    private static void numbersOfFixtures() {
        number(Script.whole(), "plan #", 0, "12", 1, "12", "Argument");
        String planned = Script.whole() + "plan 0; plan 1;";
        number(planned, "putOff # 50", 0, "1", 23, "4", "Index");
        number(planned, "fixture # h", 0, "0", 23, "7", "Index");
        number(planned, "fixture # a", 0, "1", 23, "6", "Index");
        number(planned, "fixture # d", 0, "1", 23, "4", "Index");
        number(planned, "stateOf #", 0, "p", 23, "p", "Index");
        number(planned, "name # true 9", 0, "1", 23, "1", "Index");
        number(planned, "name 5 false #", 0, "1", 23, "1", "Index");
        number(Script.league(2) + "plan 0;", "stateOf #", 0, "p", 1, "p", "Index");
        number(Script.league(3) + "plan 0;", "stateOf #", 0, "p", 5, "p", "Index");
    }

    /** 'h', 'a' and 'd' alone are something of a fixture, of all signs that there are. */
    private static void signsOfFixture() {
        Goalmouth x = new Goalmouth();
        x.addClub(0, 0, 0);
        x.addClub(0, 1, 0);
        x.plan(0);
        for (int sign = Character.MIN_VALUE; sign <= Character.MAX_VALUE; sign++) {
            char what = (char) sign;
            Object due = what == 'h' ? 1 : what == 'a' ? 0 : what == 'd' ? (Object) 2 : IllegalArgumentException.class;
            Due.is("the sign " + sign, due, () -> x.fixture(1, what));
        }
    }

    private static void numbersInMatches() {
        String on = Script.whole() + "plan 0; goOn 1;" + Script.kickOff(0, 0, 23);
        number(on, "goal #", 0, "10", 23, "1", "Index");
        number(on, "card # true", 0, "0", 23, "0", "Index");
        number(on, "card # false", 0, "0", 23, "0", "Index");
        number(on, "change # 3", 0, "1", 23, "1", "Index");
        String middle = Script.whole() + "plan 0; goOn 1;" + Script.kickOff(0, 9, 10);
        number(middle, "change 9 #", 0, "1", 23, "1", "Index");
    }

    private static void numbersOfMatches() {
        String planned = Script.whole() + "plan 0; plan 1; goOn 1; name 0 true 0; name 0 false 3;";
        number(planned, "kickOff #", 0, "0", 23, "Unsupported", "Index");
        String begun = planned + "kickOff 0;";
        number(begun, "isGuilty # true", 0, "false", 23, "Unsupported", "Index");
        number(begun, "isGuilty # false", 0, "false", 23, "Unsupported", "Index");
        number(begun + "goal 0; end;", "resultOf #", 0, "10", 23, "Unsupported", "Index");
        String last = Script.whole() + "plan 0; plan 1; goOn 4; name 23 true 21; name 23 false 18;";
        number(last, "kickOff #", 0, "Unsupported", 23, "0", "Index");
        number(last + "kickOff 23;", "isGuilty # true", 0, "Unsupported", 23, "false", "Index");
        number(last + "kickOff 23; abandon true;", "resultOf #", 0, "Unsupported", 23, "3", "Index");
    }

    private static void numbersOfCards() {
        String on = Script.whole() + "plan 0; goOn 1;" + Script.kickOff(0, 0, 3);
        number(on + "card 0 false;", "appeal # true", 0, "false", 0, "false", "Index");
        number(on + "card 0 false; card 0 false; card 3 true;", "appeal # false", 0, "false", 2, "false", "Index");
        String later = on + "card 0 true; end; wipe; strike 0 true; strike 1 true; strike 2 true; endSeason;";
        number(later, "appeal # true", 0, "false", 0, "false", "Index");
    }

    private static void numbersOfTables() {
        String whole = Script.whole();
        number(whole, "takePoints # 7", 0, "7", 7, "7", "Index");
        number(whole, "takePoints 0 #", 1, "1", 30, "30", "Argument");
        number(whole, "strike # true", 0, "false", 7, "false", "Index");
        number(whole, "clubAt # 1", 0, "1", 1, "5", "Argument");
        number(whole, "clubAt 0 #", 0, "0", 3, "3", "Index");
        number(whole, "clubAt 1 #", 0, "4", 3, "7", "Index");
        number(whole, "points #", 0, "0", 7, "0", "Index");
        number(Script.league(3), "clubAt 0 #", 0, "0", 2, "2", "Index");
        number(Script.league(1), "clubAt 0 #", 0, "0", 0, "0", "Index");
    }

    /** A day has a least that goes with the day of the fixture and today, and no greatest. */
    private static void daysOfPutOff() {
        String planned = Script.league(2) + "plan 0;";
        number(planned, "putOff 0 #", 2, "Unsupported", Integer.MAX_VALUE, "1", "Argument");
        number(planned, "putOff 1 #", 3, "2", Integer.MAX_VALUE, "2", "Argument");
        number(planned + "goOn 1;", "putOff 1 #", 3, "2", Integer.MAX_VALUE, "2", "Argument");
        number(planned + "goOn 2;", "putOff 1 #", 3, "2", Integer.MAX_VALUE, "2", "Argument");
        number(planned + "goOn 9;", "putOff 1 #", 10, "2", Integer.MAX_VALUE, "2", "Argument");
        number(planned + "goOn 9; putOff 1 20;", "putOff 1 #", 21, "20", Integer.MAX_VALUE, "20", "Argument");
        String latest = planned + "putOff 0 MAX -> 1; fixture 0 d -> " + Integer.MAX_VALUE + ";";
        Script.run("no day is later than the greatest", latest + "putOff 0 MAX -> Argument; putOff 0 MIN -> Argument");
        Script.run("the greatest day is taken", latest + "putOff 1 MAX -> Unsupported; putOff 1 2147483646 -> 2");
    }

    // ---- nothing there yet ----

    private static void nothing() {
        String[] calls = {
            "addPlayer 0 -> Index", "setWindow 0 0 -> true", "setWindow 1 1 -> false", "goOn 1 -> 1",
            "sell 0 0 0 -> Index", "lend 0 0 -> Index", "callBack 0 -> Index", "setDerby 0 1 true -> Index",
            "setDerby 0 0 true -> Index", "plan 0 -> State", "plan 1 -> State", "putOff 0 1 -> Index",
            "fixture 0 h -> Index", "stateOf 0 -> Index", "name 0 true 0 -> Index", "kickOff 0 -> Index",
            "goal 0 -> Index", "card 0 true -> Index", "change 0 0 -> Index", "end -> State", "abandon true -> State",
            "abandon false -> State", "appeal 0 true -> Index", "wipe -> 0", "ban 0 -> Index", "yellows 0 -> Index",
            "isGuilty 0 true -> Index", "resultOf 0 -> Index", "takePoints 0 1 -> Index", "strike 0 true -> Index",
            "clubAt 0 0 -> Index", "clubAt 1 0 -> Index", "points 0 -> Index", "divisionOf 0 -> Index",
            "registered 0 -> Index", "endSeason -> -1", "money -> 0", "overShare -> Arithmetic",
            "meanGoals -> Arithmetic", "isSound -> true"};
        for (String call : calls) {
            Script.run("a new object", call);
        }
        Script.run("a new object, all of it", String.join(";", calls) + "; goOn 1 -> 2; addClub 0 0 0 -> 0; addPlayer 0 -> 0");
    }

    private static void noPlayer() {
        Script.run("clubs without players", "addClub 0 0 0; addClub 0 1 0; setWindow 0 9999; plan 0 -> 2; sell 0 1 0 -> Index;"
            + "lend 0 1 -> Index; callBack 0 -> Index; name 0 true 0 -> Index; goal 0 -> Index; card 0 true -> Index;"
            + "change 0 0 -> Index; ban 0 -> Index; yellows 0 -> Index; registered 0 -> Index; wipe -> 0;"
            + "goOn 1; kickOff 0 -> Unsupported; overShare -> 0.0; isSound -> true; money -> 2000");
    }

    private static void noFixture() {
        Script.run("players without fixtures", Script.league(4) + "putOff 0 9 -> Index; fixture 0 d -> Index; stateOf 0 -> Index;"
            + "name 0 true 0 -> Index; kickOff 0 -> Index; isGuilty 0 true -> Index; resultOf 0 -> Index; goal 0 -> State;"
            + "overShare -> Arithmetic; meanGoals -> Arithmetic; points 3 -> 0; clubAt 0 3 -> 3; isSound -> true;"
            + "endSeason -> -1; clubAt 0 3 -> 3");
    }

    private static void noMatchOn() {
        String none = "goal 0 -> State; card 0 true -> State; card 0 false -> State; change 0 1 -> State; end -> State;"
            + "abandon true -> State; abandon false -> State;";
        String free = "wipe -> 0; strike 0 false -> false;";
        Script.run("no match on before the first", Script.league(2) + none + "plan 0;" + none + "goOn 1;" + none + free
            + "name 0 true 0; name 0 false 1;" + none + free);
        Script.run("no match on behind the end", Script.league(2) + "plan 0; goOn 1;" + Script.match(0, 0, 1, 0) + none + free
            + "goOn 1 -> 2;" + none + "appeal 0 true -> Index");
        Script.run("no match on behind the abandoning", Script.league(2) + "plan 0; goOn 1;" + Script.kickOff(0, 0, 1)
            + "abandon true -> 0;" + none + free + "goOn 1 -> 2; kickOff 0 -> Unsupported");
        Script.run("no match is over while the first one is on", Script.league(2) + "plan 0; goOn 1;" + Script.kickOff(0, 0, 1)
            + "goal 0; meanGoals -> Arithmetic; overShare -> 0.0; resultOf 0 -> Unsupported; points 0 -> 0; clubAt 0 0 -> 0;"
            + "appeal 0 true -> Index; isSound -> true");
    }

    private static void noneOfTheOtherDivision() {
        Script.run("clubs of the upper division alone", Script.league(2) + "clubAt 1 0 -> Index; plan 1 -> State; endSeason -> -1;"
            + "divisionOf 0 -> 0; divisionOf 1 -> 0");
        Script.run("a single club of the division 1", "addClub 1 0 1; clubAt 1 0 -> 0; clubAt 0 0 -> Index; plan 1 -> State;"
            + "endSeason -> -1; divisionOf 0 -> 1; addClub 1 0 2; plan 1 -> 2");
    }

    // ---- as much as can be ----

    private static void fullDivisions() {
        for (int division = 0; division <= 1; division++) {
            String add = "addClub " + division + " 0 0";
            String other = "addClub " + (1 - division) + " 0 0";
            Script.run("at most 4 in the division " + division, add + " -> 0;" + add + " -> 1;" + add + " -> 2;" + add + " -> 3;"
                + add + " -> State;" + other + " -> 4;" + add + " -> State;" + other + " -> 5;" + other + " -> 6;"
                + other + " -> 7;" + other + " -> State;" + add + " -> State; divisionOf 7 -> " + (1 - division)
                + "; divisionOf 8 -> Index; money -> 8000; addPlayer 7 -> 0; addPlayer 8 -> Index");
        }
        // The club 4 goes up and the club 3 down, so both stay full; with none to go down there is room again.
        Script.run("full behind a season's end", Script.whole().replace("addClub 1 4 0", "addClub 1 4 2")
            + "endSeason -> 4; addClub 0 0 0 -> State; addClub 1 0 0 -> State; clubAt 0 3 -> 4; clubAt 1 0 -> 3; clubAt 1 4 -> Index");
        Script.run("room behind a season's end", "addClub 1 0 2; addClub 1 1 2; addClub 1 2 2; addClub 1 3 2; addClub 1 4 2 -> State;"
            + "endSeason -> 0; addClub 1 4 2 -> 4; addClub 1 5 2 -> State; clubAt 1 3 -> 4; addClub 0 0 0 -> 5; addClub 0 0 0 -> 6;"
            + "addClub 0 0 0 -> 7; addClub 0 0 0 -> State; clubAt 0 3 -> 7");
    }

    private static void fullOfPlayers() {
        StringBuilder text = new StringBuilder("addClub 0 0 0; addClub 1 0 0;");
        for (int i = 0; i < 24; i++) {
            text.append("registered ").append(i).append(" -> Index; addPlayer 1 -> ").append(i).append(';');
        }
        Script.run("at most 24 players", text + "addPlayer 1 -> State; addPlayer 0 -> State; registered 23 -> 1; registered 24 -> Index;"
            + "endSeason -> -1; addPlayer 0 -> State");
    }

    private static void fullOfFixtures() {
        Script.run("24 fixtures", Script.whole() + "plan 1 -> 12; stateOf 11 -> p; stateOf 12 -> Index; plan 0 -> 12; stateOf 23 -> p;"
            + "stateOf 24 -> Index; plan 0 -> State; plan 1 -> State; fixture 0 h -> 4; fixture 12 h -> 0; overShare -> 0.0");
    }

    private static void fullOfNamed() {
        StringBuilder text = new StringBuilder(Script.whole() + "plan 0; goOn 1;");
        for (int i = 1; i <= 5; i++) {
            text.append("name 0 true ").append(i).append(" -> ").append(i).append(';');
        }
        text.append("name 0 true 0 -> State; name 0 true 23 -> State;");
        for (int i = 1; i <= 5; i++) {
            text.append("name 0 false ").append(i + 10).append(" -> ").append(i).append(';');
        }
        text.append("name 0 false 0 -> State; name 0 true 0 -> State; kickOff 0;");
        for (int i = 1; i <= 5; i++) {
            text.append("goal ").append(i).append(" -> ").append(11 * i - 1).append(';');
            text.append("goal ").append(i + 10).append(" -> ").append(11 * i).append(';');
        }
        Script.run("5 named for each side, all of them on the field", text + "goal 0 -> Unsupported; end -> 55");
    }

    private static void fullOfChanges() {
        String on = Script.whole() + "plan 0; goOn 1; name 0 true 0; name 0 true 1; name 0 false 3; name 0 false 4; kickOff 0;";
        Script.run("3 changes for each side", on + "change 0 2 -> 1; change 3 5 -> 1; change 1 6 -> 2; change 2 7 -> 3;"
            + "change 6 8 -> Unsupported; change 7 8 -> Unsupported; goal 6 -> 10; goal 7 -> 20; change 4 8 -> 2; change 8 9 -> 3;"
            + "change 9 10 -> Unsupported; change 5 10 -> Unsupported; goal 9 -> 21; goal 10 -> Unsupported");
        Script.run("a refused change is none", on + "change 0 1 -> Unsupported; change 0 0 -> Unsupported; change 2 5 -> Unsupported;"
            + "change 0 2 -> 1; change 1 0 -> Unsupported; change 1 5 -> 2; change 5 6 -> 3; change 6 7 -> Unsupported");
        Script.run("changes of each match by itself", on + "change 0 2; change 2 5; change 5 6; end; goOn 1;"
            + Script.kickOff(1, 0, 9) + "change 0 2 -> 1; change 2 5 -> 2; change 5 6 -> 3; change 6 7 -> Unsupported");
    }

    private static void fullOfGoals() {
        StringBuilder text = new StringBuilder(Script.whole() + "plan 0; goOn 1; name 0 true 0; name 0 true 1;"
            + "name 0 false 3; name 0 false 4; kickOff 0;");
        for (int i = 1; i <= 9; i++) {
            text.append("goal ").append(i % 2).append(" -> ").append(10 * i).append(';');
        }
        text.append("goal 0 -> Unsupported; goal 1 -> Unsupported;");
        for (int i = 1; i <= 9; i++) {
            text.append("goal ").append(3 + i % 2).append(" -> ").append(90 + i).append(';');
        }
        text.append("goal 3 -> Unsupported; goal 4 -> Unsupported; goal 0 -> Unsupported; change 0 2; goal 2 -> Unsupported;");
        Script.run("9 goals for each side", text + "end -> 99; resultOf 0 -> 99; meanGoals -> 18.0; points 0 -> 1; points 1 -> 1");
        Script.run("9 goals against none", Script.league(2) + "plan 0; goOn 1;" + Script.match(0, 0, 1, 90)
            + "resultOf 0 -> 90; goOn 1;" + Script.match(1, 1, 0, 9) + "resultOf 1 -> 9; points 0 -> 6; points 1 -> 0");
    }

    private static void nobodyLeftOnTheField() {
        Script.run("all are sent off", Script.league(2) + "plan 0; goOn 1;" + Script.kickOff(0, 0, 1)
            + "goal 1; card 0 true -> 0; card 1 true -> 1; goal 0 -> Unsupported; goal 1 -> Unsupported; card 0 true -> Unsupported;"
            + "card 1 false -> Unsupported; change 0 1 -> Unsupported; appeal 1 true -> false; goal 1 -> Unsupported; end -> 1;"
            + "resultOf 0 -> 1; ban 0 -> 3; ban 1 -> 0; isSound -> true");
    }

    /** Cards are numbered over all matches and seasons, as many as the calls of an object allow. */
    private static void manyCards() {
        StringBuilder text = new StringBuilder(Script.whole() + "plan 0;");
        int cards = 0;
        int[] dayOf = {1, 2, 3, 4, 3, 2, 5, 6, 1, 6, 5, 4};
        for (int day = 1; day <= 6; day++) {
            text.append("goOn 1;");
            for (int fixture = 0; fixture < 12; fixture++) {
                if (dayOf[fixture] == day) {
                    text.append(cardsOfAMatch(fixture, cards));
                    cards += 20;
                }
            }
        }
        Script.run("numbers of cards", text + "appeal " + cards + " true -> Index; appeal " + (cards - 1)
            + " true -> false; appeal 0 true -> false; isSound -> true");
    }

    /** Each of the ten players sees two yellow cards. */
    private static String cardsOfAMatch(int fixture, int first) {
        StringBuilder text = new StringBuilder();
        for (int i = 0; i < 10; i++) {
            text.append("name ").append(fixture).append(i < 5 ? " true " : " false ").append(i).append(';');
        }
        text.append("kickOff ").append(fixture).append(';');
        for (int i = 0; i < 20; i++) {
            text.append("card ").append(i % 10).append(" false -> ").append(first + i).append(';');
        }
        return text + "appeal " + (first + 20) + " true -> Index; end;";
    }

    /** The last day that a window can have, and the days behind it. */
    private static void manyDays() {
        StringBuilder text = new StringBuilder(Script.league(2) + "setWindow 9999 9999 -> false;");
        for (int day = 99; day < 9999; day += 99) {
            text.append("goOn 99 -> ").append(day).append(';');
        }
        Script.run("the day 9999 and the next", text + "sell 0 1 5 -> Unsupported; goOn 99 -> 9999; sell 0 1 5 -> 995;"
            + "setWindow 9999 9999 -> true; setWindow 0 9998 -> false; sell 0 0 5 -> Unsupported; setWindow 0 9999 -> true;"
            + "goOn 1 -> 10000; sell 0 0 5 -> Unsupported; setWindow 0 9999 -> false; plan 0 -> 2; fixture 0 d -> 10001;"
            + "fixture 1 d -> 10002");
    }

    /** One club gets the money of all, and spends it at once. */
    private static void muchMoney() {
        StringBuilder text = new StringBuilder(Script.whole() + "setWindow 0 0;");
        for (int club = 1; club < 8; club++) {
            text.append("sell 0 ").append(club).append(" 1000 -> 0; sell 0 0 0 -> ").append(1000 * (club + 1)).append(';');
        }
        Script.run("all money at one club", text + "sell 3 0 8001 -> Unsupported; sell 3 0 9999 -> Unsupported;"
            + "sell 3 0 10000 -> Argument; sell 0 1 1 -> Unsupported; sell 0 1 0 -> 0; sell 0 0 8000 -> 0; sell 6 1 8000 -> 0;"
            + "sell 3 0 1 -> Unsupported; sell 3 0 0 -> 0; money -> 8000; isSound -> true");
    }

    private static void manyPointsTaken() {
        StringBuilder text = new StringBuilder(Script.league(2));
        for (int i = 1; i <= 100; i++) {
            text.append("takePoints 0 30 -> ").append(30 * i).append(';');
        }
        Script.run("many points taken", text + "takePoints 0 31 -> Argument; points 0 -> -3000; clubAt 0 1 -> 0; takePoints 1 30 -> 30;"
            + "points 1 -> -30; clubAt 0 0 -> 1; strike 0 true -> false; points 0 -> 0; strike 0 false -> true; points 0 -> -3000");
    }
}
