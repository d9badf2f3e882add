import java.util.Map;
import java.util.TreeMap;

/**
 * Promises 29, 30 and 33 over whole seasons with few goals, so that many clubs are alike.
 * Behind each match the table is compared with the Model's.
 */
public final class TableTest {
    private static final int SEASONS = 2500;
    private static long seed = 20261119;

    private final Goalmouth real = new Goalmouth();
    private final Model model = new Model();
    private final int size;

    private TableTest(int size) {
        this.size = size;
        for (int club = 0; club < size; club++) {
            int ground = club;
            int grade = draw(4);
            both("addClub", () -> model.addClub(0, ground, grade), () -> real.addClub(0, ground, grade));
            int trainer = club;
            both("addPlayer", () -> model.addPlayer(trainer), () -> real.addPlayer(trainer));
        }
    }

    public static void main(String[] args) {
        Map<Integer, Integer> seasons = new TreeMap<>();
        for (int i = 0; i < SEASONS; i++) {
            int size = draw(5) == 0 ? 3 : 4;
            new TableTest(size).play();
            seasons.merge(size, 1, Integer::sum);
        }
        System.out.println("seasons by clubs: " + seasons);
        Due.finish();
    }

    private static int draw(int bound) {
        seed = seed * 6364136223846793005L + 1442695040888963407L;
        return (int) ((seed >>> 33) % bound);
    }

    private static void both(String what, Due.Call want, Due.Call got) {
        Due.is(what, Due.outcome(want), got);
    }

    private void play() {
        both("plan", () -> model.plan(0), () -> real.plan(0));
        int most = 2 + draw(2);
        int fixtures = model.matches.size();
        int played = draw(3) == 0 ? 1 + draw(fixtures) : fixtures;
        for (int day = 1; day <= 6; day++) {
            both("goOn", () -> model.goOn(1), () -> real.goOn(1));
            for (int f = 0; f < fixtures; f++) {
                if (model.matches.get(f).day == day && f < played) {
                    playMatch(f, draw(most), draw(most));
                }
            }
        }
        compareTable();
        punish();
        compareTable();
        both("endSeason", () -> model.endSeason(), () -> real.endSeason());
    }

    private void playMatch(int fixture, int home, int away) {
        int p = model.fixture(fixture, 'h');
        int q = model.fixture(fixture, 'a');
        // Now and then a side has a player of another club.
        int stranger = size == 4 && draw(20) == 0 ? other(p, q) : p;
        both("name", () -> model.name(fixture, true, stranger), () -> real.name(fixture, true, stranger));
        both("name", () -> model.name(fixture, false, q), () -> real.name(fixture, false, q));
        both("kickOff", () -> model.kickOff(fixture), () -> real.kickOff(fixture));
        for (int i = 0; i < home; i++) {
            both("goal", () -> model.goal(stranger), () -> real.goal(stranger));
        }
        for (int i = 0; i < away; i++) {
            both("goal", () -> model.goal(q), () -> real.goal(q));
        }
        if (draw(30) == 0) {
            boolean isHome = draw(2) == 0;
            both("abandon", () -> model.abandon(isHome), () -> real.abandon(isHome));
        } else {
            both("end", () -> model.end(), () -> real.end());
        }
        both("resultOf", () -> model.resultOf(fixture), () -> real.resultOf(fixture));
    }

    private static int other(int p, int q) {
        for (int i = 0; i < 4; i++) {
            if (i != p && i != q) {
                return i;
            }
        }
        return p;
    }

    private void punish() {
        for (int club = 0; club < size; club++) {
            int each = club;
            if (draw(4) == 0) {
                int points = 1 + draw(3);
                both("takePoints", () -> model.takePoints(each, points), () -> real.takePoints(each, points));
            }
            if (draw(8) == 0) {
                both("strike", () -> model.strike(each, true), () -> real.strike(each, true));
            }
        }
    }

    private void compareTable() {
        for (int i = 0; i <= size; i++) {
            int place = i;
            both("clubAt " + place + " of " + size, () -> model.clubAt(0, place), () -> real.clubAt(0, place));
            both("points " + place, () -> model.points(place), () -> real.points(place));
        }
    }
}
