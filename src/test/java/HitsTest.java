import java.util.HashMap;
import java.util.Map;
import java.util.Random;

/** Promises 15 to 20: hits, the take moved whole or cut. */
public final class HitsTest {
    private static final Checks CHECK = new Checks("HitsTest");

    public static void main(String[] args) {
        hitsComeAndGo();
        stateAndBad();
        movedWhole();
        cutWhereNoTailIs();
        Random random = new Random(11);
        for (int round = 0; round < 600; round++) compareWithAllWays(random);
        CHECK.finish();
    }

    private static void hitsComeAndGo() {
        StepsByHand x = new StepsByHand();
        CHECK.due("hit(2, 0)", x.hit(2, 0), -1);
        CHECK.due("hit(-1, 0)", x.hit(-1, 0), -1);
        CHECK.due("hit(0, 500)", x.hit(0, 500), -1);
        CHECK.due("hit(0, -1)", x.hit(0, -1), -1);
        for (int i = 0; i < 12; i++) CHECK.due("hit " + i, x.hit(0, i), i + 1);
        CHECK.due("not later", x.hit(0, 11), -1);
        CHECK.due("earlier", x.hit(0, 0), -1);
        CHECK.due("the 13th", x.hit(0, 12), -3);
        CHECK.due("the other side is its own", x.hit(1, 0), 1);
        CHECK.due("count(3)", x.count(3), 12);
        CHECK.due("count(4)", x.count(4), 1);
        CHECK.due("wipe", x.wipe(), 13);
        CHECK.due("wipe again", x.wipe(), 0);
        CHECK.due("count(3) then", x.count(3), 0);
        CHECK.due("count(4) then", x.count(4), 0);
        CHECK.due("the last frame", x.hit(0, 499), 1);
        CHECK.due("the same frame as the only one", x.hit(0, 499), -1);
        CHECK.due("from the first frame anew", x.hit(1, 0), 1);
    }

    private static void stateAndBad() {
        StepsByHand x = new StepsByHand();
        for (int round = 0; round < 2; round++) {
            CHECK.due("miss(0)", x.miss(0), -2);
            CHECK.due("miss(21)", x.miss(21), -1);
            CHECK.due("miss(-21)", x.miss(-21), -1);
            CHECK.due("slip(0)", x.slip(0), -1002);
            CHECK.due("slip(1)", x.slip(1), -1002);
            CHECK.due("slip(2)", x.slip(2), -1000);
            CHECK.due("slip(-1)", x.slip(-1), -1000);
            CHECK.due("cuts(0)", x.cuts(0), -2);
            CHECK.due("cuts(4)", x.cuts(4), -1);
            CHECK.due("cuts(-1)", x.cuts(-1), -1);
            CHECK.due("enough(0)", x.enough(0), -2);
            CHECK.due("enough(-1)", x.enough(-1), -1);
            CHECK.due("enough(1000)", x.enough(1000), -1);
            x.hit(round, 5);
        }
        CHECK.due("as many of both", x.hit(1, 7), 2);
        x.hit(0, 9);
        CHECK.due("as many of both: miss", x.miss(0), 2);
    }

    private static StepsByHand take(String text, int[] picture, int[] take) {
        StepsByHand x = Checks.told(text);
        for (int f : picture) x.hit(0, f);
        for (int f : take) x.hit(1, f);
        return x;
    }

    private static void movedWhole() {
        StepsByHand x = take("", new int[] {0}, new int[] {499});
        CHECK.due("far: miss(-20)", x.miss(-20), 479);
        CHECK.due("far: slip", x.slip(0), -20);
        CHECK.due("far: slip miss", x.slip(1), 479);
        CHECK.due("far: enough(478)", x.enough(478), -4);
        CHECK.due("far: enough(479)", x.enough(479), 0);
        StepsByHand even = take("", new int[] {10, 30}, new int[] {12, 32});
        CHECK.due("-2", even.slip(0), -2);
        StepsByHand flat = take("", new int[] {10, 30}, new int[] {7, 33});
        CHECK.due("of several the least", flat.slip(0), 0);
        CHECK.due("its miss", flat.slip(1), 6);
        StepsByHand low = take("", new int[] {10, 30}, new int[] {13, 35});
        CHECK.due("of several the least without sign", low.slip(0), -3);
        StepsByHand high = take("", new int[] {13, 35}, new int[] {10, 30});
        CHECK.due("the same above 0", high.slip(0), 3);
        CHECK.due("miss(20)", high.miss(20), 32);
    }

    private static void cutWhereNoTailIs() {
        int[] picture = {10, 20};
        int[] hits = {10, 19};
        CHECK.due("tail 8: a cut", take("tail 8;", picture, hits).cuts(1), 0);
        CHECK.due("tail 9: no cut", take("tail 9;", picture, hits).cuts(1), 1);
        // Moved together, the parts must keep more than the tail between them: 13 to 19 with tail 5, but 15 to 17 not.
        CHECK.due("a part may come as near as that", take("tail 5;", new int[] {13, 19}, new int[] {10, 30}).cuts(1), 0);
        CHECK.due("no nearer", take("tail 6;", new int[] {13, 19}, new int[] {10, 30}).cuts(1), 1);
        StepsByHand three = take("", new int[] {10, 23, 47, 68}, new int[] {10, 20, 40, 60});
        CHECK.due("0 cuts is moved whole", three.cuts(0), 12);
        CHECK.due("1 cut", three.cuts(1), 4);
        CHECK.due("2 cuts", three.cuts(2), 1);
        CHECK.due("3 cuts", three.cuts(3), 0);
        CHECK.due("enough(0)", three.enough(0), 3);
        CHECK.due("enough(1)", three.enough(1), 2);
        CHECK.due("enough(3)", three.enough(3), 2);
        CHECK.due("enough(4)", three.enough(4), 1);
        CHECK.due("one hit", take("", new int[] {5}, new int[] {9}).cuts(3), 0);
    }

    private static void compareWithAllWays(Random random) {
        int n = 1 + random.nextInt(12);
        int tail = 1 + random.nextInt(9);
        int[] picture = rising(random, n);
        int[] hits = rising(random, n);
        StepsByHand x = take("tail " + tail + ";", picture, hits);
        AllWays ways = new AllWays(picture, hits, tail);
        int[] least = new int[4];
        for (int c = 0; c < 4; c++) {
            least[c] = ways.least(0, c, -999);
            CHECK.due("cuts(" + c + ")", x.cuts(c), least[c]);
        }
        CHECK.due("slip(1)", x.slip(1), least[0]);
        int m = random.nextInt(2) == 0 ? random.nextInt(1000) : Math.max(0, Math.min(999, least[random.nextInt(4)] - random.nextInt(2)));
        int fewest = -4;
        for (int c = 3; c >= 0; c--) {
            if (least[c] <= m) fewest = c;
        }
        CHECK.due("enough(" + m + ")", x.enough(m), fewest);
        int best = 0;
        for (int far = 20; far >= 0; far--) {
            if (x.miss(far) == least[0]) best = far;
            if (x.miss(-far) == least[0]) best = -far;
        }
        CHECK.due("slip(0)", x.slip(0), best);
        int d = random.nextInt(41) - 20;
        int sum = 0;
        for (int k = 0; k < n; k++) sum += Math.abs(picture[k] - (hits[k] + d));
        CHECK.due("miss(" + d + ")", x.miss(d), sum);
    }

    private static int[] rising(Random random, int n) {
        int range = 2 + random.nextInt(38);
        int[] frames = new int[n];
        int f = random.nextInt(30);
        for (int k = 0; k < n; k++) {
            frames[k] = f;
            f += 1 + random.nextInt(range);
        }
        return frames;
    }

    /** Part by part, with every length and every move of each. */
    private static final class AllWays {
        final int[] picture;
        final int[] take;
        final int tail;
        final Map<Integer, Integer> known = new HashMap<>();

        AllWays(int[] picture, int[] take, int tail) {
            this.picture = picture;
            this.take = take;
            this.tail = tail;
        }

        int least(int from, int cutsLeft, int lastAsMoved) {
            if (from == take.length) return 0;
            int key = (from * 4 + cutsLeft) * 2000 + lastAsMoved + 1000;
            Integer before = known.get(key);
            if (before != null) return before;
            int best = 1 << 20;
            for (int d = -20; d <= 20; d++) {
                if (from > 0 && take[from] + d - lastAsMoved <= tail) continue;
                int miss = 0;
                for (int k = from; k < take.length; k++) {
                    miss += Math.abs(picture[k] - take[k] - d);
                    boolean isLast = k == take.length - 1;
                    if (isLast) best = Math.min(best, miss);
                    boolean mayCut = !isLast && cutsLeft > 0 && take[k + 1] - take[k] > tail;
                    if (mayCut) best = Math.min(best, miss + least(k + 1, cutsLeft - 1, take[k] + d));
                }
            }
            known.put(key, best);
            return best;
        }
    }
}
