import java.util.ArrayList;
import java.util.List;

/** Promise 10 for every way in which clubs of a division can share grounds and have derbies. */
public final class PlanTest {
    public static void main(String[] args) {
        for (int size = 1; size <= 4; size++) {
            for (int[] grounds : sharings(size)) {
                for (int derbies = 0; derbies < 1 << (size * (size - 1) / 2); derbies++) {
                    compare(size, grounds, derbies);
                }
            }
        }
        Due.finish();
    }

    /** Every way to part clubs into groups with one ground each, told by grounds numbered as they first come. */
    private static List<int[]> sharings(int size) {
        List<int[]> all = new ArrayList<>();
        grow(new int[size], 0, 0, all);
        return all;
    }

    private static void grow(int[] grounds, int club, int used, List<int[]> all) {
        if (club == grounds.length) {
            all.add(grounds.clone());
            return;
        }
        for (int ground = 0; ground <= used; ground++) {
            grounds[club] = ground;
            grow(grounds, club + 1, Math.max(used, ground + 1), all);
        }
    }

    private static void compare(int size, int[] grounds, int derbies) {
        Goalmouth real = new Goalmouth();
        Model model = new Model();
        // A club of the other division stands between them, on the ground of the first, and takes part in nothing.
        for (int i = 0; i < size; i++) {
            real.addClub(1, grounds[i], 0);
            model.addClub(1, grounds[i], 0);
            if (i == 0) {
                real.addClub(0, grounds[0], 0);
                model.addClub(0, grounds[0], 0);
            }
        }
        int bit = 0;
        for (int i = 0; i < size; i++) {
            for (int j = i + 1; j < size; j++) {
                boolean is = (derbies >> bit++ & 1) != 0;
                real.setDerby(number(i), number(j), is);
                model.setDerby(number(j), number(i), is);
            }
        }
        String what = "plan of " + size + ", grounds " + java.util.Arrays.toString(grounds) + ", derbies " + derbies;
        Due.is(what, Due.outcome(() -> model.plan(1)), () -> real.plan(1));
        for (int i = 0; i <= model.matches.size(); i++) {
            int fixture = i;
            for (char thing : "had".toCharArray()) {
                Due.is(what + ", fixture " + fixture + " " + thing,
                    Due.outcome(() -> model.fixture(fixture, thing)), () -> real.fixture(fixture, thing));
            }
        }
    }

    private static int number(int inDivision) {
        return inDivision == 0 ? 0 : inDivision + 1;
    }
}
