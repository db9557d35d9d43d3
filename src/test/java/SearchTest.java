import java.util.ArrayDeque;
import java.util.Arrays;
import java.util.HashMap;
import java.util.Map;
import java.util.Random;

/** The fewest moves against a search through all rows of moves; orders against a look at all sets. */
public final class SearchTest {
    private static final int FREE = 5;

    public static void main(String[] args) {
        Random random = new Random(20261118);
        int[] kinds = new int[3];
        for (int run = 0; run < 400; run++) {
            moves(random, kinds);
        }
        Check.due("some runs have no row of moves", kinds[0] > 20, true);
        Check.due("some need no more than a move a leg", kinds[1] > 20, true);
        Check.due("some need more", kinds[2] > 20, true);
        for (int run = 0; run < 60; run++) {
            orders(random);
        }
        Check.close("SearchTest");
    }

    /** All hooks but some five are full of legs that stay, so that the search stays small. */
    private static void moves(Random random, int[] kinds) {
        HamCellar x = new HamCellar();
        int[] free = someHooks(random);
        for (int i = 0; i < 60; i++) {
            x.leg(0, i, 5000);
        }
        int legs = random.nextInt(FREE + 1);
        int next = legs;
        for (int place = 10; place < 60; place++) {
            if (indexOf(free, place) < 0) {
                x.hang(next, place / 10, place % 10);
                next++;
            }
        }
        int[] at = new int[legs];
        int[] target = new int[legs];
        int[] targets = someOrder(random);
        for (int i = 0; i < legs; i++) {
            at[i] = i;
            x.hang(i, free[i] / 10, free[i] % 10);
            target[i] = -1;
            if (random.nextInt(5) != 0) {
                target[i] = targets[i];
                int place = free[targets[i]];
                Check.due("should", x.should(i, place / 10, place % 10), true);
            }
        }
        int want = fewest(at, target);
        int wrongPlaces = 0;
        for (int i = 0; i < legs; i++) {
            wrongPlaces += target[i] >= 0 && target[i] != at[i] ? 1 : 0;
        }
        kinds[want < 0 ? 0 : want == wrongPlaces ? 1 : 2]++;
        Check.due("moves from " + Arrays.toString(at) + " to " + Arrays.toString(target), x.moves(), want);
    }

    /** Breadth first; legs with no target stay, so they never move here. */
    private static int fewest(int[] at, int[] target) {
        Map<String, Integer> seen = new HashMap<>();
        ArrayDeque<int[]> open = new ArrayDeque<>();
        open.add(at);
        seen.put(Arrays.toString(at), 0);
        while (!open.isEmpty()) {
            int[] now = open.remove();
            int moves = seen.get(Arrays.toString(now));
            if (isThere(now, target)) {
                return moves;
            }
            for (int leg = 0; leg < now.length; leg++) {
                for (int hook = 0; hook < FREE && target[leg] >= 0; hook++) {
                    if (indexOf(now, hook) < 0) {
                        int[] then = now.clone();
                        then[leg] = hook;
                        if (seen.putIfAbsent(Arrays.toString(then), moves + 1) == null) {
                            open.add(then);
                        }
                    }
                }
            }
        }
        return HamCellar.NONE;
    }

    private static boolean isThere(int[] at, int[] target) {
        for (int i = 0; i < at.length; i++) {
            if (target[i] >= 0 && at[i] != target[i]) {
                return false;
            }
        }
        return true;
    }

    private static int[] someHooks(Random random) {
        int[] hooks = new int[FREE];
        for (int i = 0; i < FREE; i++) {
            int place = 10 + random.nextInt(50);
            while (indexOf(hooks, place) >= 0) {
                place = 10 + random.nextInt(50);
            }
            hooks[i] = place;
        }
        return hooks;
    }

    private static int[] someOrder(Random random) {
        int[] order = {0, 1, 2, 3, 4};
        for (int i = FREE - 1; i > 0; i--) {
            int j = random.nextInt(i + 1);
            int kept = order[i];
            order[i] = order[j];
            order[j] = kept;
        }
        return order;
    }

    private static int indexOf(int[] row, int wanted) {
        for (int i = 0; i < row.length; i++) {
            if (row[i] == wanted) {
                return i;
            }
        }
        return -1;
    }

    /** Few weights, so that many sets weigh the same. */
    private static void orders(Random random) {
        HamCellar x = new HamCellar();
        int legs = 1 + random.nextInt(18);
        int step = random.nextBoolean() ? 1000 : 1;
        int[] weights = new int[legs];
        boolean[] gone = new boolean[legs];
        for (int i = 0; i < legs; i++) {
            weights[i] = 5000 + step * random.nextInt(4);
            x.leg(0, i, weights[i]);
            x.hang(i, i / 10, i % 10);
            x.seal(i);
        }
        for (int asked = 0; asked < 8; asked++) {
            int grams = 1 + random.nextInt(60000);
            int[] of = firstFourteen(gone);
            int set = bestSet(weights, of, grams);
            Check.due("order " + grams + " of " + Arrays.toString(weights), x.order(grams),
                    set == 0 ? HamCellar.NONE : Integer.bitCount(set));
            for (int i = 0; i < of.length; i++) {
                gone[of[i]] |= (set & 1 << i) != 0;
            }
            for (int i = 0; i < legs; i++) {
                Check.due("sold " + i + " of " + Arrays.toString(weights) + " for " + grams, x.look(i, 4) == 2, gone[i]);
            }
        }
    }

    private static int[] firstFourteen(boolean[] gone) {
        int[] of = new int[14];
        int size = 0;
        for (int i = 0; i < gone.length && size < 14; i++) {
            if (!gone[i]) {
                of[size++] = i;
            }
        }
        return Arrays.copyOf(of, size);
    }

    private static int bestSet(int[] weights, int[] of, int grams) {
        int best = 0;
        long bestRank = Long.MAX_VALUE;
        for (int set = (1 << of.length) - 1; set > 0; set--) {
            int weight = 0;
            for (int i = 0; i < of.length; i++) {
                weight += (set & 1 << i) != 0 ? weights[of[i]] : 0;
            }
            long rank = ((long) weight * 16 + Integer.bitCount(set)) * 65536 + set;
            if (weight >= grams && rank < bestRank) {
                best = set;
                bestRank = rank;
            }
        }
        return best;
    }
}
