/** What the document says under "Terms" of numbers, orders and edges, sentence by sentence, with answers found by hand. */
public final class TermsTest {
    private static final String OPEN = "setWindow 0 9999;";
    /** The days of the first plan of four clubs without common grounds and derbies, by fixture. */
    private static final int[] DAY_OF = {1, 2, 3, 4, 3, 2, 5, 6, 1, 6, 5, 4};
    private static final String[] PAIRS = {"0 1", "0 2", "0 3", "1 0", "1 2", "1 3", "2 0", "2 1", "2 3", "3 0", "3 1", "3 2"};

    public static void main(String[] args) {
        clubsAndPlayers();
        daysOfDeals();
        feesDivided();
        feesAndMoney();
        loans();
        plansOfTwoAndThree();
        plansOfFour();
        plansWithCommonGrounds();
        plansWithDerbies();
        plansAndTheOtherDivision();
        putOff();
        matches();
        sendingOff();
        rightsByRegistration();
        rightsByBans();
        rightsOfLoans();
        lostByRights();
        lostByAbandoning();
        cardsOfAMatch();
        eachThird();
        wipes();
        service();
        manyBans();
        appeals();
        cardsOfEndedSeasons();
        pointsOfMatches();
        struckClubs();
        tiesAmongTwo();
        tiesPartedAnew();
        tiesLeft();
        pointsTakenAndTies();
        whoGoesUp();
        whoGoesDown();
        whatASeasonLeaves();
        Due.finish();
    }

    private static void run(String sentence, String text) {
        Script.run(sentence, text);
    }

    private static String match(int fixture, int home, int away, int score) {
        return Script.match(fixture, home, away, score);
    }

    // ---- clubs, players, deals ----

    private static void clubsAndPlayers() {
        run("clubs are numbered from 0 over both divisions", "addClub 1 0 0 -> 0; addClub 0 0 0 -> 1; addClub 1 0 0 -> 2; divisionOf 0 -> 1;"
            + "divisionOf 1 -> 0; divisionOf 2 -> 1; clubAt 1 0 -> 0; clubAt 1 1 -> 2; clubAt 0 0 -> 1");
        run("a club has 1000 at first", "money -> 0; addClub 0 0 0; money -> 1000; addClub 1 0 0; money -> 2000; addPlayer 0;"
            + OPEN + "sell 0 1 1000 -> 0");
        run("players are numbered from 0 over all clubs", "addClub 0 0 0; addClub 0 0 0; addPlayer 1 -> 0; addPlayer 0 -> 1; addPlayer 1 -> 2;"
            + "registered 0 -> 1; registered 1 -> 0; registered 2 -> 1");
    }

    private static void daysOfDeals() {
        String league = Script.league(3);
        run("no window at first, on no day", league + "sell 0 1 0 -> Unsupported; lend 0 1 -> Unsupported; goOn 1; sell 0 1 0 -> Unsupported;"
            + "goOn 99; lend 0 1 -> Unsupported");
        run("from a day to a day", league + "setWindow 2 3 -> false; sell 0 1 0 -> Unsupported; goOn 1; sell 0 1 0 -> Unsupported; goOn 1;"
            + "sell 0 1 0 -> 1000; goOn 1; sell 0 2 0 -> 1000; goOn 1; sell 0 1 0 -> Unsupported");
        run("a window of one day", league + "setWindow 1 1 -> false; lend 0 1 -> Unsupported; goOn 1; lend 0 1 -> 0; setWindow 1 1 -> true;"
            + "goOn 1; callBack 0 -> Unsupported; setWindow 2 2 -> true; callBack 0 -> 1");
        run("a window that ends before it begins", league + "goOn 5; setWindow 6 4 -> false; lend 0 1 -> Unsupported; setWindow 5 4 -> false;"
            + "setWindow 6 5 -> false; setWindow 5 5 -> true");
        run("a new window instead of the old one", league + "setWindow 0 0 -> true; setWindow 1 9 -> false; lend 0 1 -> Unsupported;"
            + "setWindow 0 10000 -> Argument; lend 0 1 -> Unsupported; goOn 1; lend 0 1 -> 0");
    }

    /** The player 0 was trained by the club 0, is of the club 1, and goes to the club 2 for the fee. */
    private static void feesDivided() {
        int[][] shares = {{0, 0}, {1, 0}, {19, 0}, {20, 1}, {39, 1}, {40, 2}, {59, 2}, {999, 49}, {1000, 50}};
        for (int[] share : shares) {
            int fee = share[0];
            run("of a fee of " + fee + " the trainer gets " + share[1], Script.league(3) + OPEN + "sell 0 1 0 -> 1000;"
                + "sell 0 2 " + fee + " -> " + (1000 - fee) + "; sell 1 0 0 -> " + (1000 + share[1])
                + "; sell 2 1 0 -> " + (1000 + fee - share[1]) + "; money -> 3000; isSound -> true");
        }
        // The club 1 trained the player 1, and sells or buys itself: all goes to the one that sells.
        run("nothing if the trainer sells", Script.league(3) + OPEN + "sell 1 0 400 -> 600; sell 0 1 0 -> 1400");
        run("nothing if the trainer buys", Script.league(3) + OPEN + "sell 1 0 0 -> 1000; sell 1 1 400 -> 600; sell 2 0 0 -> 1400");
        run("the trainer stays who it was", Script.league(3) + OPEN + "sell 0 1 100 -> 900; sell 0 2 100 -> 900; sell 0 1 100 -> 895;"
            + "sell 1 0 0 -> 1110; sell 0 0 100 -> 1010; sell 2 1 0 -> 995");
        run("a trainer that is struck or of the other division gets its share", "addClub 1 0 0; addClub 0 0 0; addClub 0 1 0; addPlayer 0;"
            + "addPlayer 1; strike 0 true;" + OPEN + "sell 0 1 0; sell 0 2 200 -> 800; sell 1 0 0 -> 1010");
    }

    private static void feesAndMoney() {
        run("money that is just the fee", Script.league(3) + OPEN + "sell 0 1 1001 -> Unsupported; sell 0 1 1000 -> 0; sell 0 2 0 -> 1000;"
            + "sell 2 1 1 -> Unsupported; sell 2 1 0 -> 0");
        run("a deal that is refused moves no money", Script.league(3) + OPEN + "sell 0 1 1001 -> Unsupported; registered 0 -> 0;"
            + "sell 1 0 0 -> 1000; sell 2 1 0 -> 1000; money -> 3000");
    }

    private static void loans() {
        String league = Script.league(3) + OPEN;
        run("registered at the other club until it is called back", league + "lend 0 2 -> 0; registered 0 -> 2; goOn 50; registered 0 -> 2;"
            + "callBack 0 -> 2; registered 0 -> 0; callBack 0 -> Unsupported; lend 0 1 -> 0; registered 0 -> 1");
        run("a lent player is not sold nor lent", league + "lend 0 2; sell 0 1 0 -> Unsupported; sell 0 2 0 -> Unsupported;"
            + "lend 0 1 -> Unsupported; lend 0 2 -> Unsupported; callBack 0; sell 0 2 0 -> 1000; registered 0 -> 2");
        run("who is sold is lent by the club that bought", league + "sell 0 1 0; lend 0 0 -> 1; registered 0 -> 0; lend 0 1 -> Argument;"
            + "callBack 0 -> 0; registered 0 -> 1");
        run("a loan outlasts the season", league + "lend 0 2; endSeason; registered 0 -> 2; callBack 0 -> 2");
    }

    // ---- fixtures ----

    private static String days(int from, String... days) {
        StringBuilder text = new StringBuilder();
        for (int i = 0; i < days.length; i++) {
            String[] told = days[i].split("[ @]");
            text.append("fixture ").append(from + i).append(" h -> ").append(told[0]).append(';');
            text.append("fixture ").append(from + i).append(" a -> ").append(told[1]).append(';');
            text.append("fixture ").append(from + i).append(" d -> ").append(told[2]).append(';');
        }
        return text + "stateOf " + (from + days.length) + " -> Index;";
    }

    private static void plansOfTwoAndThree() {
        run("two clubs, two days", Script.league(2) + "plan 0 -> 2;" + days(0, "0 1@1", "1 0@2"));
        run("three clubs, six days, one match each", Script.league(3) + "plan 0 -> 6;"
            + days(0, "0 1@1", "0 2@2", "1 0@3", "1 2@4", "2 0@5", "2 1@6"));
        run("from the next day on", Script.league(2) + "goOn 99; goOn 1; plan 0 -> 2;" + days(0, "0 1@101", "1 0@102"));
        run("two clubs on one ground, a derby", "addClub 0 3 0; addClub 0 3 0; setDerby 0 1 true; plan 0 -> 2;" + days(0, "0 1@1", "1 0@2"));
        run("three clubs on one ground, all derbies", "addClub 1 3 0; addClub 1 3 0; addClub 1 3 0; setDerby 0 1 true; setDerby 0 2 true;"
            + "setDerby 1 2 true; plan 1 -> 6;" + days(0, "0 1@1", "0 2@2", "1 0@3", "1 2@4", "2 0@5", "2 1@6"));
        run("a struck club, too", Script.league(3) + "strike 1 true; plan 0 -> 6; fixture 3 h -> 1; fixture 0 a -> 1");
    }

    private static void plansOfFour() {
        run("four clubs, six days", Script.league(4) + "plan 0 -> 12;" + days(0, "0 1@1", "0 2@2", "0 3@3", "1 0@4", "1 2@3", "1 3@2",
            "2 0@5", "2 1@6", "2 3@1", "3 0@6", "3 1@5", "3 2@4"));
        run("numbers behind those of the division that was planned first", Script.league(2) + "addClub 1 4 0; addClub 1 5 0; plan 1 -> 2;"
            + "plan 0 -> 2;" + days(0, "2 3@1", "3 2@2", "0 1@1", "1 0@2"));
        run("home clubs by their numbers, not by their coming into the division", "addClub 1 0 2; addClub 0 1 0; addClub 1 2 0; endSeason -> 0;"
            + "divisionOf 1 -> 1; plan 1 -> 2;" + days(0, "1 2@1", "2 1@2"));
        run("planned later, from another day", Script.league(2) + "addClub 1 4 0; addClub 1 5 0; plan 0; goOn 3; plan 1 -> 2;"
            + days(2, "2 3@4", "3 2@5") + "fixture 0 d -> 1");
    }

    private static String grounds(int... grounds) {
        StringBuilder text = new StringBuilder();
        for (int ground : grounds) {
            text.append("addClub 0 ").append(ground).append(" 0;");
        }
        return text.toString();
    }

    private static void plansWithCommonGrounds() {
        run("no ground has two matches on a day", grounds(0, 1, 0, 2) + "plan 0 -> 12;" + days(0, "0 1@1", "0 2@2", "0 3@3", "1 0@4",
            "1 2@3", "1 3@2", "2 0@5", "2 1@6", "2 3@4", "3 0@6", "3 1@5", "3 2@1"));
        run("three of four clubs on one ground: 9 matches in 6 days", grounds(4, 4, 4, 5) + "plan 0 -> NoElement");
        run("all on one ground", grounds(7, 7, 7, 7) + "plan 0 -> NoElement; stateOf 0 -> Index");
        run("two clubs on each of two grounds", grounds(0, 0, 1, 1) + "plan 0 -> 12; plan 0 -> State");
    }

    private static void plansWithDerbies() {
        String four = Script.league(4);
        run("two derbies that could only be on the same days", four + "setDerby 0 1 true; setDerby 2 3 true; plan 0 -> NoElement;"
            + "setDerby 1 0 false; plan 0 -> 12");
        run("the other two pairs", four + "setDerby 0 2 true; setDerby 1 3 true; plan 0 -> NoElement");
        run("the last two pairs", four + "setDerby 0 3 true; setDerby 1 2 true; plan 0 -> NoElement");
        run("three derbies of one club are apart by themselves", four + "setDerby 0 1 true; setDerby 2 0 true; setDerby 0 3 true; plan 0 -> 12;"
            + "fixture 0 d -> 1; fixture 8 d -> 1; fixture 11 d -> 4");
        run("a derby behind the plan changes nothing", four + "plan 0 -> 12; setDerby 0 1 true; setDerby 2 3 true; fixture 0 d -> 1;"
            + "fixture 8 d -> 1; plan 0 -> State");
        run("derbies outlast the season", four + "setDerby 0 1 true; setDerby 2 3 true; endSeason; setDerby 0 1 true -> true; plan 0 -> NoElement");
    }

    private static void plansAndTheOtherDivision() {
        run("common grounds and derbies of two divisions do not matter", "addClub 0 0 0; addClub 0 0 0; addClub 1 0 0; addClub 1 0 0;"
            + "setDerby 0 1 true; setDerby 2 3 true; setDerby 0 2 true; plan 0 -> 2; plan 1 -> 2;"
            + days(0, "0 1@1", "1 0@2", "2 3@1", "3 2@2"));
        run("a division without a plan does not hinder the other", "addClub 1 0 0; addClub 1 0 0; addClub 1 0 0; addClub 1 0 0;"
            + "addClub 0 0 0; addClub 0 0 0; plan 1 -> NoElement; plan 0 -> 2; plan 1 -> NoElement;" + days(0, "4 5@1", "5 4@2"));
    }

    private static void putOff() {
        String four = Script.league(4) + "plan 0; goOn 1;";
        // The fixture 1 is 0 against 2, on the day 2 with 5, 1 against 3; the fixture 0 is 0 against 1, on the day 1 with 8.
        run("a club at home or away hinders, whoever it is", four + "putOff 1 20 -> 2; putOff 0 20 -> Unsupported; putOff 4 20 -> Unsupported;"
            + "putOff 6 20 -> Unsupported; putOff 3 20 -> Unsupported; putOff 5 20 -> 2; fixture 5 d -> 20");
        run("its own day is free for others then", four + "putOff 5 2 -> Argument; putOff 8 2 -> Unsupported; putOff 1 20 -> 2;"
            + "putOff 8 2 -> Unsupported; putOff 5 21 -> 2; putOff 8 2 -> 1");
        run("one that is over does not hinder, one that is on or left does", four + match(0, 0, 1, 0) + "name 8 true 2; name 8 false 3; kickOff 8;"
            + "putOff 8 20 -> Unsupported; putOff 0 20 -> Unsupported; end; putOff 2 20 -> 3; goOn 18; goOn 1; putOff 4 20 -> Argument;"
            + "name 2 true 0; name 2 false 3; kickOff 2; end; putOff 4 21 -> 3; putOff 3 21 -> Unsupported; putOff 3 22 -> 4");
        run("the ground of the home club, of either division", "addClub 0 0 0; addClub 0 1 0; addClub 1 0 0; addClub 1 1 0; plan 0; plan 1;"
            + "putOff 0 9 -> 1; putOff 2 9 -> Unsupported; putOff 3 9 -> 2; putOff 1 9 -> Unsupported; putOff 2 10 -> 1; fixture 0 d -> 9");
        run("the ground of the home club, where it is over", "addClub 0 0 0; addClub 0 1 0; addClub 1 0 0; addClub 1 2 0; addPlayer 0; addPlayer 1;"
            + "plan 0; plan 1; putOff 0 9; goOn 8; goOn 1; putOff 2 9 -> Argument;" + match(0, 0, 1, 0) + "putOff 2 10 -> 1; putOff 1 10 -> 2");
        run("no match of the put off one is forgotten", four + "name 1 true 0 -> 1; putOff 1 20; name 1 true 2 -> 2; name 1 false 3 -> 1;"
            + "goOn 1; kickOff 1 -> Unsupported; goOn 18; kickOff 1 -> 2");
        run("a day on which there is no other match at all", four + "putOff 0 7 -> 1; putOff 0 8 -> 7; putOff 0 7 -> Argument; putOff 0 8 -> Argument");
    }

    // ---- matches ----

    private static void matches() {
        String two = Script.league(2) + "addPlayer 0; addPlayer 1; plan 0;";
        run("planned, on, over", two + "stateOf 0 -> p; goOn 1; stateOf 0 -> p; name 0 true 0; name 0 false 1; stateOf 0 -> p; kickOff 0;"
            + "stateOf 0 -> k; goal 0; end -> 10; stateOf 0 -> f; stateOf 1 -> p; goOn 1;" + Script.kickOff(1, 1, 0)
            + "abandon false -> 1; stateOf 1 -> a; stateOf 0 -> f");
        run("one for each side at least", two + "goOn 1; kickOff 0 -> Unsupported; name 0 true 0 -> 1; kickOff 0 -> Unsupported;"
            + "name 0 false 1 -> 1; kickOff 0 -> 0");
        run("on its day, not before and not later", two + "name 0 true 0; name 0 false 1; kickOff 0 -> Unsupported; goOn 2; kickOff 0 -> Unsupported;"
            + "putOff 0 3 -> 1; kickOff 0 -> Unsupported; goOn 1; kickOff 0 -> 0");
        run("players of whatever clubs", Script.league(4) + "plan 0; goOn 1; name 0 true 2 -> 1; name 0 false 3 -> 1; kickOff 0 -> 2");
        run("one who goes does not come back", two + "goOn 1;" + Script.kickOff(0, 0, 1) + "change 0 2 -> 1; change 2 0 -> Unsupported;"
            + "goal 0 -> Unsupported; goal 2 -> 10; card 0 false -> Unsupported; card 2 false -> 0");
        run("one match after the other on a day", Script.league(4) + "plan 0; goOn 1;" + match(0, 0, 1, 10) + match(8, 2, 3, 1)
            + "resultOf 0 -> 10; resultOf 8 -> 1; stateOf 1 -> p");
        run("a match with a struck club is played as any other", two + "strike 0 true; goOn 1;" + Script.kickOff(0, 0, 1)
            + "goal 0 -> 10; card 0 true -> 0; end -> 10; resultOf 0 -> 10; ban 0 -> 3; points 0 -> 0; points 1 -> 0; meanGoals -> 1.0");
    }

    private static void sendingOff() {
        String on = Script.league(2) + "addPlayer 0; addPlayer 1; plan 0; goOn 1;" + Script.kickOff(0, 0, 1);
        run("one yellow card does not send off", on + "card 0 false -> 0; goal 0 -> 10; card 0 false -> 1; goal 0 -> Unsupported");
        run("a red one does", on + "card 1 true -> 0; goal 1 -> Unsupported; card 1 false -> Unsupported");
        run("a yellow one and a red one", on + "card 0 false -> 0; card 0 true -> 1; goal 0 -> Unsupported; change 0 2 -> Unsupported");
        run("yellow cards of two players", on + "card 0 false; card 1 false; goal 0 -> 10; goal 1 -> 11");
        run("yellow cards of two players of a side, by turns", Script.league(2) + "addPlayer 0; plan 0; goOn 1; name 0 true 0; name 0 true 2;"
            + "name 0 false 1; kickOff 0; card 0 false; card 2 false; goal 0 -> 10; goal 2 -> 20; card 0 false; goal 0 -> Unsupported;"
            + "goal 2 -> 30; card 2 false; goal 2 -> Unsupported; goal 1 -> 31; end; ban 0 -> 1; ban 2 -> 1; ban 1 -> 0");
        run("who was sent off stays so", on + "card 0 true; appeal 0 true; goal 0 -> Unsupported; appeal 0 false; goal 0 -> Unsupported;"
            + "card 1 false; card 1 false; appeal 1 true; appeal 2 true; goal 1 -> Unsupported");
        run("a yellow card of the match before does not count for it", on + "card 0 false; end; goOn 1;" + Script.kickOff(1, 1, 0)
            + "card 0 false -> 1; goal 0 -> 1; card 0 false -> 2; goal 0 -> Unsupported");
    }

    // ---- rights ----

    private static void rightsByRegistration() {
        String three = Script.league(3) + OPEN + "plan 0; goOn 1;";
        run("registered at this club then, not when it was named", three + "name 0 true 2 -> 1; name 0 false 1; sell 2 0 0; kickOff 0 -> 0;"
            + "isGuilty 0 true -> false");
        run("sold before the kick-off", three + "name 0 true 0; name 0 false 1; sell 0 2 0; kickOff 0 -> 1; isGuilty 0 true -> true;"
            + "isGuilty 0 false -> false");
        run("sold while the match is on", three + Script.kickOff(0, 0, 1) + "sell 0 2 0; isGuilty 0 true -> false; end; resultOf 0 -> 0;"
            + "points 0 -> 1");
        run("bought while the match is on, too late for the kick-off", three + "name 0 true 2; name 0 false 1; kickOff 0 -> 1; sell 2 0 0;"
            + "isGuilty 0 true -> true; end -> 0; resultOf 0 -> 3");
        run("who comes on is judged then", three + Script.kickOff(0, 0, 1) + "sell 2 0 0; change 0 2 -> 1; isGuilty 0 true -> false; end");
        run("who comes on without a right", three + Script.kickOff(0, 0, 1) + "change 1 2 -> 1; isGuilty 0 false -> true;"
            + "isGuilty 0 true -> false; sell 2 1 0; isGuilty 0 false -> true; end -> 0; resultOf 0 -> 30");
    }

    private static void rightsByBans() {
        // The player 0 sees red in the fixture 0; the fixture 1 is 0 against 2.
        String red = Script.league(3) + "addPlayer 0;" + OPEN + "plan 0; goOn 1;" + Script.kickOff(0, 0, 1) + "goal 1; card 0 true; end; goOn 1;";
        run("named with matches of a ban left", red + "name 1 true 0; name 1 true 3; name 1 false 2; kickOff 1 -> 1; isGuilty 1 true -> true;"
            + "goal 3; end; resultOf 1 -> 3");
        run("comes on with matches of a ban left", red + Script.kickOff(1, 3, 2) + "isGuilty 1 true -> false; change 3 0 -> 1;"
            + "isGuilty 1 true -> true; end; resultOf 1 -> 3; ban 0 -> 3");
        run("a card of the match that is on does not count yet", Script.league(2) + "addPlayer 0; plan 0; goOn 1;" + Script.kickOff(0, 0, 1)
            + "card 0 true; ban 0 -> 0; isGuilty 0 true -> false; end; ban 0 -> 3; isGuilty 0 true -> false; resultOf 0 -> 0");
        run("a ban goes along to another club", red + "sell 0 2 0; name 1 true 3; name 1 false 0; kickOff 1 -> 1; isGuilty 1 false -> true");
        run("several reasons of one player count once", red + "sell 0 1 0; name 1 true 0; name 1 false 2; kickOff 1 -> 1");
        run("those of both sides are counted together", red + "name 1 true 0; name 1 true 1; name 1 false 3; kickOff 1 -> 3;"
            + "isGuilty 1 true -> true; isGuilty 1 false -> true");
    }

    private static void rightsOfLoans() {
        String three = Script.league(3) + OPEN + "plan 0; goOn 1;";
        run("not lent by the other club", three + "lend 1 0; name 0 true 1; name 0 false 2; sell 2 1 0; kickOff 0 -> 1; isGuilty 0 true -> true");
        run("lent by a third club", three + "lend 2 0; name 0 true 2; name 0 false 1; kickOff 0 -> 0");
        run("lent by the other club, away", three + "lend 0 1; name 0 true 2; sell 2 0 0; name 0 false 0; kickOff 0 -> 1;"
            + "isGuilty 0 false -> true; isGuilty 0 true -> false");
        run("lent elsewhere plays for its own club without a right", three + "lend 0 2; name 0 true 0; name 0 false 1; kickOff 0 -> 1");
        run("called back before the kick-off", three + "lend 0 1; name 0 true 0; name 0 false 1; callBack 0; kickOff 0 -> 0");
        run("bought from the other club it is not lent", three + "sell 1 0 0; name 0 true 1; name 0 false 2; kickOff 0 -> 1;"
            + "isGuilty 0 true -> false; isGuilty 0 false -> true");
        run("trained by the other club, lent by a third one", three + "sell 1 2 0; lend 1 0; name 0 true 1; name 0 false 2; sell 2 1 0;"
            + "kickOff 0 -> 0");
        run("lent by the other club, comes on", three + "lend 1 0; addPlayer 1;" + Script.kickOff(0, 0, 3) + "change 0 1 -> 1;"
            + "isGuilty 0 true -> true; end; resultOf 0 -> 3");
    }

    private static void lostByRights() {
        String three = Script.league(3) + "plan 0; goOn 1;";
        run("0 to 3, however it was", three + "name 0 true 2; name 0 false 1; kickOff 0;" + "goal 2;".repeat(9) + "end -> 90; resultOf 0 -> 3;"
            + "points 0 -> 0; points 1 -> 3; meanGoals -> 3.0; clubAt 0 0 -> 1; clubAt 0 1 -> 2; clubAt 0 2 -> 0");
        run("0 to 3, though it was lost by more", three + "name 0 true 2; name 0 false 1; kickOff 0;" + "goal 1;".repeat(9)
            + "end -> 9; resultOf 0 -> 3; meanGoals -> 3.0");
        run("the away side loses", three + "name 0 true 0; name 0 false 2; kickOff 0; goal 2; end -> 1; resultOf 0 -> 30; points 0 -> 3");
        run("both have lost, without goals and points", three + "name 0 true 1; name 0 false 0; kickOff 0 -> 2; goal 0; goal 1; end -> 11;"
            + "resultOf 0 -> 0; points 0 -> 0; points 1 -> 0; meanGoals -> 0.0; isSound -> true");
        run("a match without goals is drawn", three + match(0, 0, 1, 0) + "resultOf 0 -> 0; points 0 -> 1; points 1 -> 1; meanGoals -> 0.0");
    }

    private static void lostByAbandoning() {
        String on = Script.league(3) + "plan 0; goOn 1;" + Script.kickOff(0, 0, 1) + "goal 0; goal 0; goal 1;";
        run("by the fault of the home side", on + "abandon true -> 0; resultOf 0 -> 3; points 0 -> 0; points 1 -> 3; stateOf 0 -> a");
        run("by the fault of the away side", on + "abandon false -> 0; resultOf 0 -> 30; points 0 -> 3; points 1 -> 0");
        String away = Script.league(3) + "plan 0; goOn 1; name 0 true 0; name 0 false 2; kickOff 0; goal 0;";
        run("by the fault of one, the other one guilty: both have lost", away + "abandon true -> 0; resultOf 0 -> 0; points 0 -> 0;"
            + "points 1 -> 0; isGuilty 0 true -> false; isGuilty 0 false -> true");
        run("by the fault of the one that is guilty", away + "abandon false -> 0; resultOf 0 -> 30; points 0 -> 3; points 1 -> 0");
        run("its cards count, and bans are served in it", Script.league(2) + "addPlayer 0; addPlayer 0; plan 0; goOn 1;" + Script.kickOff(0, 0, 1)
            + "card 0 true; abandon true; ban 0 -> 3; goOn 1;" + Script.kickOff(1, 1, 2) + "card 2 false; abandon true; ban 0 -> 2; yellows 2 -> 1");
    }

    // ---- bans ----

    private static void cardsOfAMatch() {
        String on = Script.league(2) + "plan 0; goOn 1;" + Script.kickOff(0, 0, 1);
        run("a red one gives 3", on + "card 0 true; ban 0 -> 0; end; ban 0 -> 3; yellows 0 -> 0; ban 1 -> 0");
        run("two yellow ones give 1", on + "card 0 false; card 0 false; end; ban 0 -> 1; yellows 0 -> 0");
        run("one yellow one is added", on + "card 0 false; yellows 0 -> 0; end; ban 0 -> 0; yellows 0 -> 1");
        run("a red one and a yellow one give 3", on + "card 0 false; card 0 true; end; ban 0 -> 3; yellows 0 -> 0");
        run("none gives nothing", on + "end; ban 0 -> 0; yellows 0 -> 0; wipe -> 0");
        run("one of two that was cancelled leaves one", on + "card 0 false; card 0 false; end; appeal 0 true -> false; ban 0 -> 0;"
            + "yellows 0 -> 1; appeal 1 true -> false; yellows 0 -> 0; appeal 0 false -> true; yellows 0 -> 1; appeal 1 false -> true;"
            + "ban 0 -> 1; yellows 0 -> 0");
    }

    /** The player 0 sees a yellow card in this fixture of two clubs, on the next day. */
    private static String yellow(int fixture) {
        return "goOn 1;" + Script.kickOff(fixture, fixture == 0 ? 0 : 1, fixture == 0 ? 1 : 0) + "card 0 false; end;";
    }

    /** In each of the 24 matches of a season the player 0, of whatever club, sees one. */
    private static void eachThird() {
        StringBuilder text = new StringBuilder(Script.whole() + "plan 0; plan 1;");
        int had = 0;
        for (int day = 1; day <= 6; day++) {
            text.append("goOn 1;");
            for (int i = 0; i < 24; i++) {
                if (DAY_OF[i % 12] == day) {
                    had++;
                    text.append(Script.kickOff(i, 0, 23)).append("card 0 false -> ").append(had - 1).append("; end; yellows 0 -> ")
                        .append(had).append("; ban 0 -> ").append(had / 3).append(';');
                }
            }
        }
        run("each third one gives 1", text + "wipe -> 1; yellows 0 -> 0; ban 0 -> 8; isSound -> true");
        run("the third one, by an appeal", Script.league(4) + "plan 0;" + threeOfFour() + "yellows 0 -> 3; ban 0 -> 1; appeal 1 true; yellows 0 -> 2;"
            + "ban 0 -> 0; appeal 1 false; yellows 0 -> 3; ban 0 -> 1");
    }

    private static String threeOfFour() {
        return "goOn 1;" + Script.kickOff(0, 0, 1) + "card 0 false; end; goOn 1;" + Script.kickOff(1, 0, 2) + "card 0 false; end; goOn 1;"
            + Script.kickOff(2, 0, 3) + "card 0 false; end;";
    }

    private static void wipes() {
        String two = Script.league(4) + "plan 0; goOn 1;" + Script.kickOff(0, 0, 1) + "card 0 false; card 1 false; end; goOn 1;"
            + Script.kickOff(1, 0, 2) + "card 0 false; end;";
        String third = "goOn 1;" + Script.kickOff(2, 0, 3) + "card 0 false; end;";
        run("without a wipe the third gives 1", two + third + "yellows 0 -> 3; ban 0 -> 1");
        run("since they were wiped", two + "yellows 0 -> 2; wipe -> 2; wipe -> 0; yellows 0 -> 0;" + third + "yellows 0 -> 1; ban 0 -> 0; wipe -> 1");
        run("a wipe leaves the ban of a third", two + third + "wipe -> 2; ban 0 -> 1; yellows 0 -> 0; yellows 1 -> 0");
        run("a cancelled one is none that could be wiped", two + "appeal 1 true; wipe -> 1; appeal 1 false; yellows 1 -> 0; ban 1 -> 0");
        run("one from before the wipe still makes a third", two + third + "wipe; appeal 0 true; ban 0 -> 0; yellows 0 -> 0; appeal 0 false; ban 0 -> 1");
        run("a season's end wipes", Script.league(2) + "plan 0;" + yellow(0) + yellow(1) + "yellows 0 -> 2; endSeason; yellows 0 -> 0; wipe -> 0;"
            + "plan 0;" + yellow(0) + "yellows 0 -> 1; ban 0 -> 0");
    }

    private static void service() {
        // The players 0, 4 and 5 are of the club 0; 0 sees red in the fixture 0.
        String red = Script.league(4) + "addPlayer 0; addPlayer 0;" + OPEN + "plan 0; goOn 1;" + Script.kickOff(0, 4, 1) + "change 4 0; card 0 true;";
        run("not in the match of the card", red + "end; ban 0 -> 3");
        run("not in a match of other clubs", red + "end;" + match(8, 2, 3, 0) + "ban 0 -> 3");
        String next = red + "end; goOn 1;";
        run("in a match of its club, one each, down to none", next + match(1, 4, 2, 0) + "ban 0 -> 2; goOn 1;" + match(2, 4, 3, 0) + "ban 0 -> 1;"
            + "goOn 1;" + match(3, 1, 4, 0) + "ban 0 -> 0; goOn 1;" + match(6, 2, 4, 0) + "ban 0 -> 0; goOn 1; name 9 true 3; name 9 false 0;"
            + "kickOff 9 -> 0");
        run("not when it was named", next + "name 1 true 4; name 1 true 0; name 1 false 2; kickOff 1 -> 1; end; ban 0 -> 3");
        run("not when it was named for the other side", next + "name 1 true 4; name 1 false 0; kickOff 1 -> 1; end; ban 0 -> 3");
        run("not when it came on", next + Script.kickOff(1, 4, 2) + "change 4 0; end; ban 0 -> 3");
        run("where it is registered as it is over", next + Script.kickOff(1, 4, 2) + "sell 0 1 0; end; ban 0 -> 3;" + match(5, 1, 3, 0) + "ban 0 -> 2");
        run("come to the club before it is over", next + "sell 0 1 0;" + Script.kickOff(1, 4, 2) + "sell 0 2 0; end; ban 0 -> 2");
        run("a loan counts, not whose it is", next + "lend 0 3;" + match(1, 4, 2, 0) + "ban 0 -> 3;" + match(5, 1, 3, 0) + "ban 0 -> 2");
        run("in a match with a struck club, too", next + "strike 0 true;" + match(1, 4, 2, 0) + "ban 0 -> 2");
        run("first served, then counted: one named serves nothing", next + "name 1 true 4; name 1 true 0; name 1 false 2; kickOff 1; card 0 true;"
            + "end; ban 0 -> 6");
    }

    private static void manyBans() {
        StringBuilder text = new StringBuilder(Script.whole() + "plan 0; plan 1;");
        int had = 0;
        for (int day = 1; day <= 6; day++) {
            text.append("goOn 1;");
            for (int i = 0; i < 24; i++) {
                if (DAY_OF[i % 12] == day) {
                    had++;
                    text.append(Script.kickOff(i, 0, 23)).append("card 0 true; end; ban 0 -> ").append(3 * had).append(';');
                }
            }
        }
        run("bans add up without a greatest", text + "ban 23 -> 0; appeal 0 true; ban 0 -> 69; appeal 23 true; ban 0 -> 66; isSound -> true");
    }

    private static void appeals() {
        String red = Script.league(3) + "addPlayer 0; plan 0; goOn 1;" + Script.kickOff(0, 0, 1) + "card 0 true; end; goOn 1;";
        run("behind an appeal the served one was never left", red + match(1, 3, 2, 0) + "ban 0 -> 2; appeal 0 true; ban 0 -> 0; appeal 0 false; ban 0 -> 2");
        run("cancelled before the match it would have hindered", red + "appeal 0 true;" + Script.kickOff(1, 0, 2) + "isGuilty 1 true -> false; goal 0;"
            + "end; resultOf 1 -> 10; appeal 0 false -> true; isGuilty 1 true -> true; resultOf 1 -> 3; points 0 -> 1; clubAt 0 0 -> 2;"
            + "appeal 0 true; points 0 -> 4; clubAt 0 0 -> 0; isSound -> true");
        run("cancelled while the match is on", red + Script.kickOff(1, 0, 2) + "isGuilty 1 true -> true; appeal 0 true; isGuilty 1 true -> false;"
            + "appeal 0 false; isGuilty 1 true -> true; end");
        run("one that changes nothing", red + "appeal 0 false -> false; ban 0 -> 3; appeal 0 true -> false; appeal 0 true -> true; ban 0 -> 0;"
            + "appeal 0 false -> true; appeal 0 false -> false; ban 0 -> 3");
        // 0 serves its one match in the fixture 1, and is named in 2.
        String twice = Script.league(3) + "addPlayer 0; plan 0; goOn 1;" + Script.kickOff(0, 0, 1) + "card 0 false; card 0 false; end; ban 0 -> 1; goOn 1;"
            + match(1, 3, 2, 0) + "ban 0 -> 0; goOn 1; name 2 true 1; name 2 false 0;";
        run("one served match is enough for two yellow cards", twice + "kickOff 2 -> 0; card 0 true; end; ban 0 -> 3; appeal 2 true; ban 0 -> 0");
        run("a cancelled red card lets the yellow one of its match count", twice + "kickOff 2 -> 0; card 0 false; card 0 true; end; ban 0 -> 3; yellows 0 -> 0;"
            + "appeal 3 true; ban 0 -> 0; yellows 0 -> 1; appeal 2 true; yellows 0 -> 0; appeal 3 false; ban 0 -> 3");
    }

    private static void cardsOfEndedSeasons() {
        String season = Script.league(2) + "addPlayer 0; plan 0; goOn 1;" + Script.kickOff(0, 0, 1) + "card 0 true; card 1 false; end; goOn 1;"
            + match(1, 1, 2, 0) + "ban 0 -> 2; endSeason;";
        run("bans stay", season + "ban 0 -> 2; yellows 1 -> 0; plan 0; goOn 1; name 0 true 0; name 0 false 1; kickOff 0 -> 1");
        run("bans are served in the next season", season + "plan 0; goOn 1;" + match(0, 2, 1, 0) + "ban 0 -> 1; goOn 1;" + match(1, 1, 2, 0)
            + "ban 0 -> 0; endSeason; ban 0 -> 0; appeal 0 true; ban 0 -> 0; appeal 0 false; ban 0 -> 0");
        run("cards can be cancelled later, too", season + "appeal 0 true -> false; ban 0 -> 0; plan 0; goOn 1;" + Script.kickOff(0, 0, 1)
            + "card 0 false -> 2; end; resultOf 0 -> 0; points 0 -> 1; appeal 0 false -> true; ban 0 -> 2; resultOf 0 -> 3; points 0 -> 0;"
            + "yellows 0 -> 1; appeal 1 true -> false; yellows 1 -> 0; appeal 3 true -> Index; isSound -> true");
        run("two seasons back", season + "endSeason; endSeason; ban 0 -> 2; appeal 0 true; ban 0 -> 0; isSound -> true");
    }

    // ---- tables ----

    /** Plays a season of four clubs; scores by fixture, 10 times the home goals and the away ones, -1 for none. */
    private static String season(int... scores) {
        StringBuilder text = new StringBuilder(Script.league(4) + "plan 0;");
        for (int day = 1; day <= 6; day++) {
            text.append("goOn 1;");
            for (int i = 0; i < scores.length; i++) {
                if (scores[i] >= 0 && DAY_OF[i] == day) {
                    text.append(match(i, PAIRS[i].charAt(0) - '0', PAIRS[i].charAt(2) - '0', scores[i]));
                }
            }
        }
        return text.toString();
    }

    /** A season of which the matches that are told are played: "1-0 20" is 1 at home against 0, 2 to 0. */
    private static String played(String... matches) {
        int[] scores = new int[12];
        java.util.Arrays.fill(scores, -1);
        for (String match : matches) {
            for (int i = 0; i < 12; i++) {
                if (match.startsWith(PAIRS[i].replace(' ', '-'))) {
                    scores[i] = Integer.parseInt(match.substring(4));
                }
            }
        }
        return season(scores);
    }

    private static String order(String clubs) {
        StringBuilder text = new StringBuilder(";");
        for (int i = 0; i < clubs.length(); i++) {
            text.append("clubAt 0 ").append(i).append(" -> ").append(clubs.charAt(i)).append(';');
        }
        return text.toString();
    }

    private static void pointsOfMatches() {
        run("3 for one won, 1 for one drawn, none for one lost", played("0-1 10", "1-2 22", "2-0 90")
            + "points 0 -> 3; points 1 -> 1; points 2 -> 4; points 3 -> 0" + order("2013"));
        run("before any match, by numbers", Script.league(4) + order("0123"));
        run("with fixtures, before any match", Script.league(4) + "plan 0" + order("0123"));
        run("less points taken, below nothing", Script.league(4) + "takePoints 0 1; takePoints 1 30; takePoints 1 30; takePoints 3 2;"
            + "points 0 -> -1; points 1 -> -60; points 2 -> 0; points 3 -> -2" + order("2031"));
        run("points before all goals", played("0-1 10", "1-0 01", "3-2 90", "2-3 00") + order("0321"));
    }

    private static void struckClubs() {
        String some = played("0-1 10", "0-2 10", "1-2 10", "3-0 30", "3-1 10", "2-3 10");
        run("all count", some + "points 0 -> 6; points 1 -> 3; points 2 -> 3; points 3 -> 6" + order("3012"));
        run("matches with a struck one do not", some + "strike 3 true; points 0 -> 6; points 1 -> 3; points 2 -> 0; points 3 -> 0" + order("0123"));
        run("struck ones are the last, by numbers", some + "strike 3 true; strike 0 true; points 1 -> 3; points 2 -> 0" + order("1203"));
        run("all struck, by numbers", some + "strike 3 true; strike 1 true; strike 0 true; strike 2 true" + order("0123"));
        run("all but one", some + "strike 3 true; strike 1 true; strike 0 true; points 2 -> 0" + order("2013"));
        run("taken back", some + "strike 3 true; strike 3 false -> true; points 3 -> 6" + order("3012"));
        run("no points, however many were taken", some + "takePoints 0 30; takePoints 1 5; strike 0 true; strike 1 true; points 0 -> 0;"
            + "points 1 -> 0" + order("2301"));
        run("its goals do not count either", played("0-3 90", "0-2 10", "1-2 20") + order("0123") + "strike 3 true" + order("1023"));
    }

    private static void tiesAmongTwo() {
        run("by points among them, before all goals", played("1-0 10", "0-2 90", "1-3 00", "3-1 01", "0-3 00", "3-0 00")
            + "takePoints 1 2; points 0 -> 5; points 1 -> 5" + order("1032"));
        run("by goals less those against among them", played("0-1 10", "1-0 30", "0-2 90", "1-2 10") + order("1032"));
        run("as many goals away are no matter", played("0-1 21", "1-0 10", "1-2 30", "0-2 10") + order("1032"));
        run("alike: by all goals less those against", played("0-1 10", "1-0 10", "0-3 10", "1-3 20") + order("1023"));
        run("alike: by all goals", played("0-1 10", "1-0 10", "0-3 10", "1-3 32") + order("1023"));
        run("alike: the lowest number", played("0-1 10", "1-0 10", "0-3 21", "1-3 21") + order("0123"));
        run("without a match among them", played("0-2 10", "1-3 20") + order("1023"));
    }

    private static void tiesPartedAnew() {
        // 0 has 6 among three, 1 and 2 are alike with 3 and -1; 2 beat 1, who has more of all goals.
        run("two of three anew", played("0-2 20", "2-1 10", "1-0 10", "0-1 10", "1-3 90", "2-3 10") + order("0213"));
        // Among four 0, 1 and 3 are alike with 3 and +1; among these 1 beat 0, and 3 met nobody.
        run("three of four anew, none of them alike", played("1-0 10", "0-2 20", "3-2 10") + "takePoints 0 3; takePoints 1 3; takePoints 3 3;"
            + "points 0 -> 0; points 2 -> 0" + order("1302"));
        // Among four 0 and 1 have 6 and +1, 2 and 3 have 3 and -1; 1 beat 0, 3 beat 2.
        run("two pairs of four anew", played("1-0 10", "2-1 10", "3-2 10", "0-2 10", "0-3 10", "1-3 10") + "takePoints 0 3; takePoints 1 3;"
            + "points 0 -> 3; points 3 -> 3" + order("1032"));
        // Among four 0, 1 and 2 have 5 and +1, and among these all have 2 and 0; 1 has more goals.
        run("three of four anew, and left then", played("0-1 00", "0-2 00", "2-1 00", "1-3 32", "0-3 10", "2-3 10") + "takePoints 0 5;"
            + "takePoints 1 5; takePoints 2 5; points 2 -> 0; points 3 -> 0" + order("1023"));
    }

    private static void tiesLeft() {
        // A ring of 1-0: alike among themselves; 2 beat 0, but 0 and 2 are alike by all goals, too.
        run("not anew by all goals, the lowest number", played("0-1 10", "1-2 10", "2-0 10", "0-3 20", "2-3 20", "1-3 10") + order("0213"));
        run("not anew by all goals less those against", played("0-1 10", "1-2 10", "2-0 10", "0-3 20", "2-3 31", "1-3 10") + order("2013"));
        run("goals among them without those against do not count", played("0-1 32", "1-2 10", "2-0 10", "0-3 10", "1-3 20", "2-3 50")
            + order("2103"));
        run("four alike, with no match", Script.league(4) + "plan 0; takePoints 2 1; takePoints 0 1; takePoints 1 1; takePoints 3 1" + order("0123"));
        run("four alike in all", played("0-1 10", "1-2 10", "2-3 10", "3-0 10") + order("0123"));
        run("alike but for all goals", played("0-1 11", "2-3 22") + order("2301"));
        run("three left of a ring that one struck off makes", played("0-1 10", "1-2 10", "2-0 10", "3-0 10", "3-1 20", "3-2 10") + "strike 3 true"
            + order("0123") + "strike 3 false" + order("3021"));
    }

    private static void pointsTakenAndTies() {
        run("they make alike", played("0-1 10") + "takePoints 0 3; points 0 -> 0" + order("0231"));
        run("one more and it is the last", played("0-1 10") + "takePoints 0 4; points 0 -> -1" + order("2310"));
        run("they do not count among them", played("0-1 10", "1-2 10", "1-3 10") + "takePoints 1 3; points 0 -> 3; points 1 -> 3" + order("0123"));
        run("they do not count among them, the other one", played("1-0 10", "0-2 90", "0-3 90") + "takePoints 0 3; points 0 -> 3; points 1 -> 3"
            + order("1023"));
    }

    // ---- season's end ----

    /** Clubs 0 and 1 of the division 0, clubs from 2 on of the division 1 with these grades. */
    private static String divisions(int... grades) {
        StringBuilder text = new StringBuilder("addClub 0 0 3; addClub 0 1 3;");
        for (int i = 0; i < grades.length; i++) {
            text.append("addClub 1 ").append(2 + i).append(' ').append(grades[i]).append(';');
        }
        return text.toString();
    }

    private static void whoGoesUp() {
        run("a grade of at least 2", divisions(0, 1, 2, 3) + "endSeason -> 4; divisionOf 4 -> 0; divisionOf 5 -> 1; divisionOf 2 -> 1");
        run("a grade of 3", divisions(1, 1, 1, 3) + "endSeason -> 5; divisionOf 5 -> 0");
        run("none with such a grade", divisions(0, 1, 1, 0) + "endSeason -> -1; divisionOf 0 -> 0; divisionOf 1 -> 0; divisionOf 3 -> 1");
        run("none that was not struck", divisions(2, 3) + "strike 2 true; strike 3 true; endSeason -> -1; divisionOf 1 -> 0; divisionOf 2 -> 1;"
            + "strike 2 true -> false");
        run("the first one struck", divisions(3, 1, 2) + "strike 2 true; endSeason -> 4; divisionOf 2 -> 1; divisionOf 1 -> 1");
        run("by the table, with points taken", divisions(2, 2, 2) + "takePoints 2 2; takePoints 3 1; endSeason -> 4; points 2 -> 0");
        run("by the table, with matches", divisions(3, 3) + "addPlayer 2; addPlayer 3; plan 1; goOn 1;" + match(0, 0, 1, 1) + "goOn 1;"
            + match(1, 1, 0, 0) + "clubAt 1 0 -> 3; endSeason -> 3");
        run("a division 1 without clubs", "addClub 0 0 3; addClub 0 1 3; endSeason -> -1; divisionOf 1 -> 0; clubAt 0 1 -> 1");
        run("no clubs at all", "endSeason -> -1; endSeason -> -1; addClub 1 0 2 -> 0; endSeason -> 0; endSeason -> -1");
    }

    private static void whoGoesDown() {
        run("the last one", divisions(2) + "endSeason -> 2; divisionOf 0 -> 0; divisionOf 1 -> 1; divisionOf 2 -> 0; clubAt 0 0 -> 0; clubAt 0 1 -> 2");
        run("by the table as it was", divisions(2) + "takePoints 0 1; endSeason -> 2; divisionOf 0 -> 1; divisionOf 1 -> 0; points 0 -> 0");
        run("a struck one", divisions(2) + "takePoints 1 9; strike 0 true; endSeason -> 2; divisionOf 0 -> 1; divisionOf 1 -> 0");
        run("the struck one with the greatest number", divisions(2) + "strike 0 true; strike 1 true; endSeason -> 2; divisionOf 1 -> 1");
        run("a single one", "addClub 0 0 0; addClub 1 0 2; endSeason -> 1; divisionOf 0 -> 1; divisionOf 1 -> 0; endSeason -> -1;"
            + "divisionOf 0 -> 1; divisionOf 1 -> 0");
        run("none, if there is none in the division 0", "addClub 1 0 2; addClub 1 0 2; endSeason -> 0; divisionOf 0 -> 0; divisionOf 1 -> 1;"
            + "endSeason -> 1; divisionOf 0 -> 1; divisionOf 1 -> 0");
        run("up and down again", divisions(3) + "endSeason -> 2; divisionOf 1 -> 1; endSeason -> 1; divisionOf 2 -> 1; endSeason -> 2; divisionOf 1 -> 1");
        run("not the one that went up, though it has fewer points", divisions(2) + "takePoints 2 30; endSeason -> 2; divisionOf 2 -> 0");
    }

    private static void whatASeasonLeaves() {
        String two = Script.league(2) + "plan 0; goOn 1;" + match(0, 0, 1, 10) + "goOn 1;";
        run("it cannot come with a match left", two + "endSeason -> State;" + Script.kickOff(1, 1, 0) + "endSeason -> State; end; endSeason -> -1");
        run("it cannot with the first one left", Script.league(2) + "plan 0; goOn 2;" + match(1, 1, 0, 0) + "endSeason -> State; putOff 0 3; goOn 1;"
            + match(0, 0, 1, 0) + "endSeason -> -1");
        run("it can with one of a struck club", two + "strike 1 true; endSeason -> -1");
        run("one struck club of two is enough", Script.league(3) + "plan 0; strike 0 true; endSeason -> State; strike 0 false; strike 1 true;"
            + "strike 2 true; endSeason -> -1");
        run("it cannot when the strike was taken back", two + "strike 1 true; strike 1 false; endSeason -> State");
        run("fixtures are gone, and planned anew from 0", two + match(1, 1, 0, 0) + "endSeason -> -1; stateOf 0 -> Index; resultOf 0 -> Index;"
            + "fixture 0 h -> Index; points 0 -> 0; overShare -> Arithmetic; plan 0 -> 2; stateOf 0 -> p; fixture 0 d -> 3; fixture 1 d -> 4");
        run("points taken are gone", two + match(1, 1, 0, 0) + "takePoints 0 7 -> 7; points 0 -> -3; endSeason; points 0 -> 0; takePoints 0 7 -> 7");
        run("strikes are gone", two + "strike 0 true; strike 1 true; endSeason; strike 0 true -> false; strike 1 false -> false");
        run("money, the day and the window stay", Script.league(2) + OPEN + "goOn 5; sell 0 1 100 -> 900; endSeason; sell 0 0 100 -> 1000; goOn 1 -> 6");
        run("a match with a struck club that is on is gone, too", two + "strike 0 true;" + Script.kickOff(1, 1, 0) + "card 0 true -> 0; endSeason -> -1;"
            + "end -> State; goal 0 -> State; ban 0 -> 0; goOn 1 -> 3; strike 0 true -> false; appeal 0 true -> false; ban 0 -> 0; isSound -> true");
    }
}
