import java.util.Random;

/** Runs of calls at random: none throws, none that is refused changes anything, questions change nothing. */
public final class AnyCallsTest {
    private static final Checks CHECK = new Checks("AnyCallsTest");
    private static final int[] FAR = {-1, Integer.MIN_VALUE, Integer.MAX_VALUE, 500, 499, 16, 17, 40, 41, 1000, 65535, 65536, -20, 20};
    private static final String TEXT = "prop 0;prop 1;prop 2;prop 0;stands 0 3;stands 3 1;walkers 2;move 3;tail 2;most 12;speech 3 20 5;"
        + "cue 0 10 0 5;cue 5 10 1 4 talk;cue 12 4 2 3;cue 8 6 3 9;cue 20 5 0 2 talk;cue 21 9 1 7;cue 30 9 2 7;cue 33 5 0 1;cue 40 9 1 6;";

    public static void main(String[] args) {
        Random random = new Random(23);
        for (int run = 0; run < 400; run++) {
            StepsByHand x = new StepsByHand();
            for (int call = 0; call < 500; call++) step(x, random);
        }
        CHECK.finish();
    }

    private static void step(StepsByHand x, Random random) {
        if (random.nextInt(60) == 0) {
            x.end(0);
            Checks.tell(x, TEXT);
            return;
        }
        int which = random.nextInt(41);
        int[] a = {number(random), number(random), number(random), number(random)};
        boolean look = random.nextInt(8) == 0;
        long before = look ? state(x) : 0;
        int answer = call(x, which, a, random);
        boolean changes = answer >= 0 && (which <= 2 || which == 7 || isTold(which));
        boolean emptiesTape = which == 2;
        if (look && !changes && !emptiesTape) CHECK.due("state behind call " + which, state(x), before);
    }

    private static boolean isTold(int which) {
        int[] telling = {13, 14, 28, 29, 32, 33, 35, 36, 37, 40};
        for (int w : telling) {
            if (w == which) return true;
        }
        return false;
    }

    private static int number(Random random) {
        int kind = random.nextInt(20);
        if (kind == 0) return FAR[random.nextInt(FAR.length)];
        if (kind < 14) return random.nextInt(4);
        return random.nextInt(kind < 18 ? 50 : 512);
    }

    private static int call(StepsByHand x, int which, int[] a, Random random) {
        switch (which) {
            case 0: return x.feed(random.nextInt(4) == 0 ? random.nextLong() : 0x70726f7020313b20L);
            case 1: return x.end(a[0]);
            case 2: return x.text();
            case 3: return x.fault();
            case 4: return x.prop(a[0], a[1]);
            case 5: return x.cue(a[0], a[1]);
            case 6: return x.rule(a[0]);
            case 7: return x.shift(a[0], a[1]);
            case 8: return x.behind(a[0], a[1]);
            case 9: return x.beside(a[0]);
            case 10: return x.passes(random.nextInt(512), a[1]);
            case 11: return x.plan(random.nextInt(512), a[1], a[2]);
            case 12: return x.does(random.nextInt(512), a[1], a[2]);
            case 13: return x.hit(a[0], a[1]);
            case 14: return random.nextInt(5) == 0 ? x.wipe() : x.count(a[0]);
            case 15: return x.miss(a[0]);
            case 16: return x.slip(a[0]);
            case 17: return x.cuts(a[0]);
            case 18: return x.enough(a[0]);
            case 19: return x.speech(a[0]);
            default: return callMore(x, which, a, random);
        }
    }

    private static int callMore(StepsByHand x, int which, int[] a, Random random) {
        switch (which) {
            case 20: return x.heard(a[0], a[1]);
            case 21: return x.masked();
            case 22: return x.level(a[0], a[1], a[2]);
            case 23: return x.clips(a[0], a[1]);
            case 24: return x.lower(a[0]);
            case 25: return x.carry(a[0], a[1]);
            case 26: return x.without(a[0], a[1]);
            case 27: return x.foreign(a[0], a[1]);
            case 28: return x.piece(a[0], a[1]);
            case 29: return random.nextInt(5) == 0 ? x.whole() : x.count(a[0]);
            case 30: return x.anew(a[0]);
            case 31: return x.moved(a[0]);
            case 32: return x.entry(a[0], a[1], a[2]);
            case 33: return random.nextInt(5) == 0 ? x.tear() : x.count(a[0]);
            case 34: return x.joined(a[0], a[1]);
            case 35: return x.sheet(a[0], a[1], a[2]);
            case 36: return x.lay(a[0], a[1], a[2]);
            case 37: return x.read(a[0], a[1], a[2], a[3]);
            case 38: return x.torn();
            case 39: return x.count(a[0]);
            default: return x.passes(a[0], a[1]);
        }
    }

    /** All that can be asked without changing anything, but the cells of the sheets, mixed into one number. */
    private static long state(StepsByHand x) {
        long mixed = x.fault() * 31L + x.torn();
        for (int what = 0; what < 10; what++) mixed = mixed * 31 + x.count(what);
        for (int p = 0; p < 8; p++) mixed = mixed * 31 + x.prop(p, 0) * 7 + x.prop(p, 1);
        for (int c = 0; c < 16; c++) {
            for (int what = 0; what < 5; what++) mixed = mixed * 31 + x.cue(c, what);
            mixed = mixed * 31 + x.heard(c, 0) + 7 * x.moved(c);
        }
        for (int what = 0; what < 4; what++) mixed = mixed * 31 + x.rule(what) + 5 * x.anew(what);
        for (int d = -20; d <= 20; d++) mixed = mixed * 31 + x.miss(d);
        for (int i = 0; i < 12; i++) mixed = mixed * 31 + x.joined(9, 10 + i);
        int all = (1 << x.count(1)) - 1;
        for (int what = 0; what < 4; what++) mixed = mixed * 31 + x.clips(all, what);
        return mixed;
    }
}
