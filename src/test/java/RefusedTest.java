import java.util.ArrayList;
import java.util.List;

/**
 * Each exception at its condition; where several conditions apply, the one that is listed first; and that a call that
 * is refused changes nothing, at each place of a long run and with any arguments.
 */
public final class RefusedTest {
    private static final String OPEN = "setWindow 0 9999;";
    /** Fixtures 0: 0 against 1 on the day 1, 1: 0 against 2 on the day 2; the player i is of the club i. */
    private static final String PLANNED = Script.league(4) + "plan 0; goOn 1;";
    private static final String ON = PLANNED + "name 8 true 2; name 8 false 3;" + Script.kickOff(0, 0, 1);

    public static void main(String[] args) {
        clubsAndPlayers();
        days();
        sell();
        lendAndCallBack();
        setDerby();
        plan();
        putOff();
        fixture();
        name();
        kickOff();
        goalAndCard();
        change();
        ofTheMatchThatIsOn();
        ofAClubOrAPlace();
        seasonsEnd();
        shares();
        refusalsChangeNothing();
        Due.finish();
    }

    private static void run(String sentence, String text) {
        Script.run(sentence, text);
    }

    // ---- each condition, and the first of several ----

    private static void clubsAndPlayers() {
        String full = "addClub 0 0 0; addClub 0 0 0; addClub 0 0 0; addClub 0 0 0;";
        run("addClub: a number before a full division", full + "addClub 0 0 0 -> State; addClub 0 8 0 -> Argument;"
            + "addClub 0 -1 0 -> Argument; addClub 0 0 4 -> Argument; addClub 0 0 -1 -> Argument; addClub 0 8 4 -> Argument");
        run("addPlayer: no club before 24 players", "addClub 0 0 0;" + "addPlayer 0;".repeat(24)
            + "addPlayer 0 -> State; addPlayer 1 -> Index; addPlayer -1 -> Index");
    }

    private static void days() {
        run("setWindow: each of both", "setWindow -1 -1 -> Argument; setWindow 10000 0 -> Argument; setWindow 0 10000 -> Argument;"
            + "setWindow 10000 10000 -> Argument");
        run("goOn: the number before the match", ON + "goOn 1 -> State; goOn 99 -> State; goOn 0 -> Argument; goOn 100 -> Argument;"
            + "goOn MIN -> Argument; goOn MAX -> Argument; end; goOn 1 -> 2");
    }

    private static void sell() {
        String league = Script.league(3);
        run("sell: no player or club before all", league + "sell 3 0 -1 -> Index; sell 0 3 -1 -> Index; sell 3 3 -1 -> Index;"
            + "sell 3 0 10 -> Index; sell 0 -1 10000 -> Index;" + OPEN + "lend 0 1; sell 0 3 10 -> Index; sell -1 0 10 -> Index");
        run("sell: the fee or its own club before the window", league + "sell 0 1 -1 -> Argument; sell 0 1 10000 -> Argument;"
            + "sell 0 0 10 -> Argument; sell 0 0 -1 -> Argument; sell 0 1 10 -> Unsupported");
        run("sell: the fee or its own club before being lent", league + OPEN + "lend 0 1; sell 0 1 -1 -> Argument;"
            + "sell 0 2 10000 -> Argument; sell 0 0 10 -> Argument; sell 0 1 10 -> Unsupported; sell 0 2 10 -> Unsupported");
        run("sell: the fee or its own club before the money", league + OPEN + "sell 0 1 10000 -> Argument; sell 0 0 1001 -> Argument;"
            + "sell 0 1 1001 -> Unsupported; sell 0 1 1000 -> 0");
        run("sell: two reasons, one exception", league + OPEN + "lend 0 1; setWindow 1 1; sell 0 1 2000 -> Unsupported;"
            + "sell 1 2 2000 -> Unsupported; goOn 1; sell 0 2 10 -> Unsupported; sell 1 2 2000 -> Unsupported; sell 1 2 10 -> 990");
    }

    private static void lendAndCallBack() {
        String league = Script.league(3);
        run("lend: no player or club before all", league + "lend 3 0 -> Index; lend 0 3 -> Index; lend -1 -1 -> Index;"
            + OPEN + "lend 0 1; lend 0 3 -> Index; lend 3 1 -> Index");
        run("lend: its own club before the window", league + "lend 0 0 -> Argument; lend 0 1 -> Unsupported");
        run("lend: its own club before being lent", league + OPEN + "lend 0 1 -> 0; lend 0 0 -> Argument; lend 0 1 -> Unsupported;"
            + "lend 0 2 -> Unsupported; setWindow 5 5; lend 0 0 -> Argument; lend 0 2 -> Unsupported");
        run("callBack: no player before all", league + "callBack 3 -> Index; callBack -1 -> Index; callBack 0 -> Unsupported;"
            + OPEN + "callBack 3 -> Index; callBack 0 -> Unsupported; lend 0 1; setWindow 1 1; callBack 0 -> Unsupported;"
            + "callBack 3 -> Index; goOn 1; callBack 0 -> 1");
    }

    private static void setDerby() {
        run("setDerby: no club before the same", Script.league(2) + "setDerby 2 2 true -> Index; setDerby -1 -1 false -> Index;"
            + "setDerby MAX MAX true -> Index; setDerby MIN MIN true -> Index; setDerby 1 2 true -> Index; setDerby 2 1 true -> Index;"
            + "setDerby 1 1 true -> Argument; setDerby 0 0 false -> Argument; setDerby 0 1 false -> false");
    }

    private static void plan() {
        run("plan: no division before all", "plan 2 -> Argument; plan -1 -> Argument; plan 0 -> State");
        run("plan: fixtures before there being no plan", PLANNED + "setDerby 0 1 true; setDerby 2 3 true; plan 0 -> State; plan 2 -> Argument");
        run("plan: fixtures, all of them over", Script.league(2) + "plan 0; goOn 1;" + Script.match(0, 0, 1, 0) + "goOn 1;"
            + Script.match(1, 1, 0, 0) + "plan 0 -> State; endSeason -> -1; plan 0 -> 2");
        run("plan: fewer than 2 clubs", "addClub 0 0 0; plan 0 -> State; addClub 1 0 0; plan 0 -> State; plan 1 -> State;"
            + "addClub 0 0 0; plan 0 -> 2; plan 1 -> State");
        run("plan: no plan leaves it unplanned", "addClub 0 1 0; addClub 0 1 0; addClub 0 1 0; addClub 0 2 0; plan 0 -> NoElement;"
            + "plan 0 -> NoElement; stateOf 0 -> Index; overShare -> Arithmetic; endSeason -> -1; addClub 1 1 0; addClub 1 1 0;"
            + "plan 1 -> 2; fixture 0 h -> 4; plan 0 -> NoElement; stateOf 2 -> Index");
    }

    private static void putOff() {
        run("putOff: no fixture before the day", PLANNED + "putOff 12 0 -> Index; putOff -1 MIN -> Index; putOff 12 99 -> Index");
        run("putOff: the day before the state", ON + "putOff 0 1 -> Argument; putOff 0 0 -> Argument; putOff 0 20 -> Unsupported;"
            + "end; putOff 0 1 -> Argument; putOff 0 MIN -> Argument; putOff 0 20 -> Unsupported; putOff 0 MAX -> Unsupported");
        // The fixture 8 is 2 against 3 on the day 1, the fixture 1 is 0 against 2 on the day 2.
        run("putOff: the day before a taken day", PLANNED + "putOff 1 1 -> Argument; putOff 1 2 -> Argument; putOff 1 3 -> Unsupported;"
            + "putOff 1 7 -> 2; putOff 8 7 -> Unsupported; goOn 6; putOff 8 7 -> Argument; putOff 8 8 -> 1");
        run("putOff: it is over and the day is taken", ON + "end; putOff 0 2 -> Unsupported; putOff 0 MAX -> Unsupported");
    }

    private static void fixture() {
        run("fixture: none before no such thing", PLANNED + "fixture 12 x -> Index; fixture -1 x -> Index; fixture 11 x -> Argument;"
            + "fixture 0 H -> Argument; fixture 0 h -> 0");
    }

    private static void name() {
        String named = Script.whole() + "plan 0; goOn 1; name 0 true 0; name 0 true 1; name 0 true 2; name 0 true 3; name 0 true 4;"
            + "name 0 false 5;";
        run("name: no fixture or player before all", named + "name 12 true 24 -> Index; name 12 true 0 -> Index; name 0 true 24 -> Index;"
            + "kickOff 0; name 0 true 24 -> Index; name 0 true -1 -> Index; end; name 0 true 24 -> Index");
        run("name: named for either side before 5", named + "name 0 true 0 -> Argument; name 0 true 4 -> Argument; name 0 true 5 -> Argument;"
            + "name 0 true 6 -> State; name 0 false 0 -> Argument; name 0 false 5 -> Argument; name 0 false 6 -> 2");
        run("name: not planned before named and 5", named + "kickOff 0; name 0 true 0 -> Unsupported; name 0 true 6 -> Unsupported;"
            + "name 0 false 0 -> Unsupported; name 0 false 6 -> Unsupported; end; name 0 true 0 -> Unsupported; name 0 true 6 -> Unsupported;"
            + "name 0 false 6 -> Unsupported");
        run("name: not planned, abandoned", named + "kickOff 0; abandon true; name 0 true 0 -> Unsupported; name 0 false 6 -> Unsupported");
        run("name: a fixture whose day is gone is planned", PLANNED + "goOn 9; name 0 true 0 -> 1; name 0 false 0 -> Argument");
    }

    private static void kickOff() {
        run("kickOff: no fixture before another match", ON + "kickOff 12 -> Index; kickOff -1 -> Index");
        run("kickOff: not planned before another match", ON + "end; kickOff 0 -> Unsupported; kickOff 8; kickOff 0 -> Unsupported;"
            + "kickOff 8 -> Unsupported");
        run("kickOff: not its day before another match", PLANNED + "name 1 true 0; name 1 false 2;" + Script.kickOff(0, 0, 1)
            + "kickOff 1 -> Unsupported; end; kickOff 1 -> Unsupported; goOn 2; kickOff 1 -> Unsupported");
        run("kickOff: a side without players before another match", PLANNED + Script.kickOff(0, 0, 1) + "kickOff 8 -> Unsupported;"
            + "name 8 true 2; kickOff 8 -> Unsupported; name 8 false 3; kickOff 8 -> State; end; kickOff 8 -> 0");
        run("kickOff: an away side without a home side", PLANNED + "name 0 false 1; kickOff 0 -> Unsupported; name 0 true 0; kickOff 0 -> 0");
        run("kickOff: of the other division, too", Script.league(2) + "addClub 1 4 0; addClub 1 5 0; plan 0; plan 1; goOn 1;"
            + "name 2 true 0; name 2 false 1;" + Script.kickOff(0, 0, 1) + "kickOff 2 -> State; stateOf 2 -> p; end; kickOff 2 -> 2");
    }

    private static void goalAndCard() {
        for (String call : new String[] {"goal #", "card # true", "card # false"}) {
            String none = call.replace("#", "4") + " -> Index;" + call.replace("#", "-1") + " -> Index;";
            run(call + ": no player before no match", PLANNED + none + call.replace("#", "0") + " -> State");
            run(call + ": no player, a match is on", ON + none + call.replace("#", "2") + " -> Unsupported");
            run(call + ": no match before not being on the field", PLANNED + call.replace("#", "3") + " -> State;"
                + Script.match(0, 0, 1, 0) + call.replace("#", "0") + " -> State;" + call.replace("#", "3") + " -> State");
            run(call + ": who is named for another fixture", ON + call.replace("#", "2") + " -> Unsupported");
        }
        run("goal: 9 goals of the other side do not matter", ON + "goal 0;".repeat(9) + "goal 0 -> Unsupported; goal 1 -> 91");
    }

    private static void change() {
        run("change: no player before no match", PLANNED + "change 4 0 -> Index; change 0 4 -> Index; change -1 -1 -> Index;"
            + "change 0 1 -> State; change 0 0 -> State; change 2 3 -> State");
        run("change: no player, a match is on", ON + "change 4 0 -> Index; change 0 4 -> Index; change 0 -1 -> Index; change 2 4 -> Index");
        run("change: not on the field, named, or came on", ON + "change 2 3 -> Unsupported; change 0 1 -> Unsupported;"
            + "change 1 0 -> Unsupported; change 0 2 -> 1; change 0 3 -> Unsupported; change 2 0 -> Unsupported; change 1 2 -> Unsupported;"
            + "change 1 3 -> 1; change 2 3 -> Unsupported");
        run("change: who was sent off neither goes nor comes", ON + "card 0 true; change 0 2 -> Unsupported; change 1 0 -> Unsupported;"
            + "change 1 2 -> 1");
        run("change: one named for another fixture may come", ON + "change 0 3 -> 1; end; kickOff 8 -> 0");
    }

    private static void ofTheMatchThatIsOn() {
        run("end and abandon: no match", PLANNED + "end -> State; abandon true -> State; abandon false -> State;" + Script.kickOff(0, 0, 1)
            + "end -> 0; end -> State; abandon true -> State; abandon false -> State");
        run("wipe: a match is on", ON + "wipe -> State; end; wipe -> 0");
        run("strike: no club before the match", ON + "strike 4 true -> Index; strike -1 false -> Index; strike 0 true -> State;"
            + "strike 0 false -> State; strike 2 true -> State; end; strike 2 true -> false");
        run("while a match is on all else goes", ON + OPEN + "addClub 1 0 0 -> 4; addClub 1 5 0 -> 5; addPlayer 4 -> 4; sell 0 3 10 -> 990;"
            + "lend 1 2 -> 1; callBack 1 -> 2; setDerby 0 1 true -> false; plan 1 -> 2; putOff 1 30 -> 2; name 1 true 0 -> 1;"
            + "takePoints 0 1 -> 1; appeal 0 true -> Index; clubAt 0 0 -> 1; endSeason -> State; isSound -> true; end -> 0");
        run("isGuilty: no fixture, not kicked off", ON + "isGuilty 12 true -> Index; isGuilty -1 true -> Index; isGuilty 8 true -> Unsupported;"
            + "isGuilty 8 false -> Unsupported; isGuilty 0 true -> false; end; isGuilty 0 false -> false");
        run("resultOf: no fixture, not over", ON + "resultOf 12 -> Index; resultOf -1 -> Index; resultOf 8 -> Unsupported;"
            + "resultOf 0 -> Unsupported; end; resultOf 0 -> 0; resultOf 8 -> Unsupported");
    }

    private static void ofAClubOrAPlace() {
        run("takePoints: no club before the points", Script.league(2) + "takePoints 2 0 -> Index; takePoints -1 31 -> Index;"
            + "takePoints 0 0 -> Argument; takePoints 1 31 -> Argument; takePoints 0 MIN -> Argument; takePoints 0 MAX -> Argument;"
            + "points 0 -> 0; takePoints 0 1 -> 1");
        run("clubAt: no division before no place", Script.league(2) + "clubAt 2 0 -> Argument; clubAt -1 -1 -> Argument;"
            + "clubAt 2 9 -> Argument; clubAt MIN MAX -> Argument; clubAt 0 2 -> Index; clubAt 0 -1 -> Index; clubAt 1 0 -> Index");
        run("appeal: no card", ON + "appeal 0 true -> Index; card 0 true -> 0; appeal 1 true -> Index; appeal -1 false -> Index;"
            + "appeal 0 false -> false");
    }

    private static void seasonsEnd() {
        run("endSeason: a fixture is left", PLANNED + "endSeason -> State; goOn 99; endSeason -> State; strike 0 true; strike 1 true;"
            + "endSeason -> State; strike 2 true; endSeason -> -1");
        run("endSeason: one of the other division is left", Script.league(2) + "addClub 1 0 2; addClub 1 1 2; plan 0; plan 1;"
            + "strike 0 true; endSeason -> State; strike 3 true; endSeason -> 2");
        run("endSeason: the last one is on", Script.league(2) + "plan 0; goOn 1;" + Script.match(0, 0, 1, 0) + "goOn 1; endSeason -> State;"
            + Script.kickOff(1, 1, 0) + "endSeason -> State; abandon true -> 1; endSeason -> -1; stateOf 0 -> Index");
    }

    private static void shares() {
        run("overShare and meanGoals: none", Script.league(2) + "overShare -> Arithmetic; meanGoals -> Arithmetic; plan 0; overShare -> 0.0;"
            + "meanGoals -> Arithmetic; goOn 1;" + Script.match(0, 0, 1, 0) + "overShare -> 0.5; meanGoals -> 0.0; strike 0 true;"
            + "overShare -> 0.5; meanGoals -> 0.0; endSeason; overShare -> Arithmetic; meanGoals -> Arithmetic");
    }

    // ---- a call that throws changes nothing ----

    /** Two divisions, two seasons: deals, matches, cards, bans, appeals, wipes, strikes and points taken. */
    private static final String SEASONS =
        "addClub 0 0 0; addClub 0 1 1; addClub 0 2 2; addClub 1 0 1; addClub 1 1 3;"
        + "addPlayer 0; addPlayer 0; addPlayer 1; addPlayer 1; addPlayer 2; addPlayer 2; addPlayer 3; addPlayer 4;"
        + "setWindow 1 4; setDerby 0 1 true; setDerby 3 4 true; plan 0; plan 1; goOn 1; sell 0 1 120; sell 0 2 90; lend 2 0;"
        + "name 0 true 1; name 0 true 2; name 0 false 3; kickOff 0; card 2 false; goal 1; card 3 true; goal 2; change 1 0; end;"
        + "name 6 true 6; name 6 false 7; kickOff 6; goal 7; card 7 false; card 7 false; change 6 1; end; appeal 1 true; goOn 1;"
        + "callBack 2; name 1 true 1; name 1 false 5; name 1 false 4; kickOff 1; goal 5; card 5 false; end; appeal 1 false;"
        + "name 7 true 7; name 7 false 6; kickOff 7; abandon false; takePoints 1 2; goOn 1; putOff 5 12;"
        + "name 2 true 3; name 2 false 1; kickOff 2; card 3 false; card 1 true; goal 3; end; wipe; goOn 1;"
        + "name 3 true 2; name 3 false 4; kickOff 3; card 2 false; goal 2; end; strike 2 true; lend 5 1; sell 1 1 40; setWindow 9 0;"
        + "endSeason; setWindow 0 99; callBack 5; addClub 0 5 2; addPlayer 5; plan 0; goOn 1;"
        + "name 0 true 0; name 0 true 3; name 0 false 5; kickOff 0; card 5 false; goal 0; end; appeal 1 true; appeal 7 true; goOn 5";

    private static final String LOOK = look();

    private static String look() {
        StringBuilder text = new StringBuilder("isSound; money; overShare; meanGoals;");
        for (int i = 0; i < 6; i++) {
            text.append("points #; divisionOf #; clubAt 0 #; clubAt 1 #; sell # 1 0; sell # 0 0;".replace("#", "" + i));
        }
        for (int i = 0; i < 9; i++) {
            text.append("ban #; yellows #; registered #; callBack #; goal #; card # false;".replace("#", "" + i));
        }
        for (int i = 0; i < 12; i++) {
            text.append("fixture # h; fixture # d; stateOf #; isGuilty # true; isGuilty # false; resultOf #;".replace("#", "" + i));
        }
        return text + "strike 0 true; strike 1 true; strike 2 true; strike 3 true; takePoints 0 1; takePoints 1 1; takePoints 4 1;"
            + "setDerby 0 1 true; setDerby 3 4 true; setDerby 0 2 true; wipe; endSeason; goOn 1; addClub 1 0 0; addPlayer 0; plan 0; plan 1";
    }

    /** At each place of the run all calls are tried; those that were refused are done there, and the rest is as ever. */
    private static void refusalsChangeNothing() {
        List<String> script = Script.calls(SEASONS);
        List<String> all = allCalls();
        int refused = 0;
        for (int place = 0; place <= script.size(); place++) {
            List<String> refusals = refusalsAt(script, place, all);
            Goalmouth plain = begun(script, place);
            Goalmouth tried = begun(script, place);
            for (String call : refusals) {
                String[] parts = call.split("->");
                Due.is("refused at " + place + ": " + call, parts[1].trim(), () -> Script.answer(tried, parts[0]));
            }
            refused += refusals.size();
            for (String call : rest(script, place)) {
                String due = Script.answer(plain, call);
                Due.is("behind what was refused at " + place + ": " + call, due, () -> Script.answer(tried, call));
            }
        }
        System.out.println(refused + " refused calls at " + (script.size() + 1) + " places");
    }

    private static List<String> rest(List<String> script, int place) {
        // Looking on the way would be much; a look now and one at the end tell what differs.
        List<String> rest = new ArrayList<>();
        if (place % 2 == 0) {
            rest.addAll(script.subList(place, script.size()));
        }
        rest.addAll(Script.calls(LOOK));
        return rest;
    }

    private static Goalmouth begun(List<String> script, int place) {
        Goalmouth x = new Goalmouth();
        for (String call : script.subList(0, place)) {
            String answer = Script.answer(x, call);
            if (Script.isRefusal(answer)) {
                throw new IllegalStateException(call + " is refused with " + answer);
            }
        }
        return x;
    }

    private static Model modelBegun(List<String> script, int place) {
        Model x = new Model();
        for (String call : script.subList(0, place)) {
            Script.answer(x, call);
        }
        return x;
    }

    /** Tries each call and compares it with the Model; what was done and not refused is made undone by beginning anew. */
    private static List<String> refusalsAt(List<String> script, int place, List<String> all) {
        List<String> refusals = new ArrayList<>();
        Goalmouth real = begun(script, place);
        Model model = modelBegun(script, place);
        for (String call : all) {
            String got = Script.answer(real, call);
            String due = Script.answer(model, call);
            Due.is("tried at " + place + ": " + call, due, () -> got);
            if (Script.isRefusal(got)) {
                refusals.add(call + " -> " + due);
            } else if (!isLook(call)) {
                real = begun(script, place);
                model = modelBegun(script, place);
            }
        }
        return refusals;
    }

    private static boolean isLook(String call) {
        String name = call.split(" ")[0];
        return List.of("fixture", "stateOf", "ban", "yellows", "isGuilty", "resultOf", "clubAt", "points", "divisionOf",
            "registered", "money", "overShare", "meanGoals", "isSound").contains(name);
    }

    private static List<String> allCalls() {
        List<String> all = new ArrayList<>(List.of("end", "wipe", "endSeason", "money", "overShare", "meanGoals", "isSound"));
        for (String form : new String[] {"addPlayer C", "goOn N", "callBack P", "plan N", "stateOf F", "kickOff F", "goal P",
            "abandon true", "abandon false", "ban P", "yellows P", "resultOf F", "points C", "divisionOf C", "registered P",
            "addClub N N N", "setWindow N N", "sell P C M", "lend P C", "setDerby C C true", "setDerby C C false", "putOff F N",
            "fixture F h", "fixture F d", "fixture F x", "name F true P", "name F false P", "card P true", "card P false",
            "change P P", "appeal N true", "appeal N false", "isGuilty F true", "isGuilty F false", "takePoints C N",
            "strike C true", "strike C false", "clubAt N C"}) {
            fill(form, all);
        }
        return all;
    }

    /** Puts every number of its kind for each sign of a form. */
    private static void fill(String form, List<String> all) {
        String[][] kinds = {
            {" C", "-1", "0", "1", "2", "4", "6"}, {" P", "-1", "0", "1", "2", "3", "5", "7", "9"},
            {" F", "-1", "0", "1", "3", "6", "8", "12"}, {" N", "MIN", "-1", "0", "1", "5", "MAX"}, {" M", "-1", "30", "1200", "10000"}};
        for (String[] kind : kinds) {
            int at = (form + " ").indexOf(kind[0] + " ");
            if (at >= 0) {
                for (int i = 1; i < kind.length; i++) {
                    fill(form.substring(0, at) + " " + kind[i] + form.substring(at + 2), all);
                }
                return;
            }
        }
        all.add(form);
    }
}
