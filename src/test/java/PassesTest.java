import java.util.Random;

/** Promises 10 to 14: who can follow whom, the fewest passes, THE PLAN. */
public final class PassesTest {
    private static final Checks CHECK = new Checks("PassesTest");

    public static void main(String[] args) {
        behindAndBeside();
        plainPlans();
        plansFollowChanges();
        wrongNumbers();
        Random random = new Random(7);
        for (int round = 0; round < 1500; round++) compareWithAllWays(random);
        CHECK.finish();
    }

    private static void behindAndBeside() {
        StepsByHand x = Checks.told("prop 1;prop 1;prop 2;move 3;cue 0 10 0 1;cue 10 5 1 1;cue 12 5 2 1;cue 13 5 2 1;cue 9 1 2 1;");
        CHECK.due("at its end on the same tray", x.behind(0, 1), 1);
        CHECK.due("move less one", x.behind(0, 2), 0);
        CHECK.due("move", x.behind(0, 3), 1);
        CHECK.due("ahead", x.behind(1, 0), 0);
        CHECK.due("itself", x.behind(0, 0), 0);
        CHECK.due("behind(0, 5)", x.behind(0, 5), -1);
        CHECK.due("behind(5, 0)", x.behind(5, 0), -1);
        CHECK.due("behind(-1, 0)", x.behind(-1, 0), -1);
        CHECK.due("behind(0, -1)", x.behind(0, -1), -1);
        CHECK.due("beside its last frame alone", x.beside(0), 16);
        CHECK.due("beside others", x.beside(1), 12);
        CHECK.due("beside on another tray", x.beside(2), 10);
        CHECK.due("beside the first", x.beside(4), 1);
        CHECK.due("beside(5)", x.beside(5), -1);
        CHECK.due("beside(-1)", x.beside(-1), -1);
        StepsByHand alone = Checks.told("prop 1;cue 0 10 0 1;cue 10 1 0 1;");
        CHECK.due("none beside", alone.beside(0), 0);
        StepsByHand near = Checks.told("prop 0;prop 1;move 0;cue 0 10 0 1;cue 10 1 1 1;");
        CHECK.due("move 0", near.behind(0, 1), 1);
    }

    private static void plainPlans() {
        StepsByHand x = Checks.told("prop 0;prop 1;prop 2;walkers 1;cue 0 5 0 1;cue 7 5 1 1;cue 14 5 0 1;cue 20 5 0 1;cue 20 5 0 1;");
        CHECK.due("one walker goes", x.passes(7, 0), 1);
        CHECK.due("going there and back", x.passes(7, 1), 2);
        CHECK.due("bound", x.passes(7, 2), 1);
        CHECK.due("two on one tray", x.passes(24, 0), 2);
        CHECK.due("of one frame by numbers", x.plan(24, 3, 0), 0);
        CHECK.due("the second", x.plan(24, 4, 0), 1);
        CHECK.due("all five", x.passes(31, 0), 2);
        CHECK.due("bound of five", x.passes(31, 2), 2);
        CHECK.due("none", x.passes(0, 0), 0);
        CHECK.due("none going", x.passes(0, 1), 0);
        CHECK.due("none bound", x.passes(0, 2), 0);
        CHECK.due("does", x.does(31, 0, 0), 15);
        CHECK.due("does the rest", x.does(31, 1, 0), 16);
        StepsByHand tight = Checks.told("prop 0;prop 1;prop 2;walkers 1;cue 0 5 0 1;cue 6 5 1 1;cue 12 5 2 1;");
        CHECK.due("the bound is below", tight.passes(7, 2), 1);
        CHECK.due("too near for one", tight.passes(7, 0), 2);
        CHECK.due("the first and the third", tight.does(7, 0, 0), 5);
        StepsByHand look = Checks.told("prop 0;prop 1;walkers 2;cue 0 5 0 1;cue 0 4 1 1;cue 5 5 1 1;cue 5 5 0 1;");
        CHECK.due("each to his tray", look.passes(15, 0), 1);
        CHECK.due("walker of cue 2", look.plan(15, 2, 1), 1);
        CHECK.due("walker of cue 3", look.plan(15, 3, 1), 0);
        CHECK.due("idle walker", look.does(1, 0, 1), 0);
    }

    private static void plansFollowChanges() {
        StepsByHand x = Checks.told("prop 0;cue 0 5 0 1;cue 0 5 0 1;");
        CHECK.due("beside", x.passes(3, 0), 2);
        x.shift(1, 5);
        CHECK.due("shifted", x.passes(3, 0), 1);
        CHECK.due("does both", x.does(3, 0, 0), 3);
        x.sheet(0, 1, 4);
        x.lay(0, 0, 2);
        x.lay(0, 1, 4);
        x.lay(0, 3, 1);
        CHECK.due("read", x.read(0, 1, 0, 1), 1);
        CHECK.due("with the cue read", x.passes(7, 0), 2);
        Checks.tell(x, "prop 0;prop 1;cue 0 5 0 1;cue 0 5 1 1;cue 0 5 1 1;");
        CHECK.due("told anew", x.passes(3, 0), 1);
        CHECK.due("told anew, all", x.passes(7, 0), 2);
        Checks.tell(x, "prop 0;prop 1;walkers 1;cue 0 5 0 1;cue 0 5 1 1;cue 0 5 1 1;");
        CHECK.due("with one walker", x.passes(7, 0), 3);
    }

    private static void wrongNumbers() {
        StepsByHand x = Checks.told("prop 0;" + "cue 1 1 0 1;".repeat(10));
        CHECK.due("9 of them", x.passes(511, 0), 9);
        CHECK.due("9 of them, the last", x.plan(511, 8, 0), 8);
        for (int what = 0; what < 3; what++) CHECK.due("10 of them", x.passes(1023, what), -1);
        CHECK.due("a cue that there is not", x.passes(1024, 0), -1);
        CHECK.due("below 0", x.passes(-1, 0), -1);
        CHECK.due("MIN", x.passes(Integer.MIN_VALUE, 0), -1);
        CHECK.due("what 3", x.passes(1, 3), -1);
        CHECK.due("what -1", x.passes(1, -1), -1);
        CHECK.due("plan of 10", x.plan(1023, 0, 0), -1);
        CHECK.due("plan of none such", x.plan(1024, 10, 0), -1);
        CHECK.due("plan, not of the set", x.plan(1, 1, 0), -1);
        CHECK.due("plan, c 32", x.plan(1, 32, 0), -1);
        CHECK.due("plan, c -1", x.plan(1, -1, 0), -1);
        CHECK.due("plan, what 2", x.plan(1, 0, 2), -1);
        CHECK.due("plan, what -1", x.plan(1, 0, -1), -1);
        CHECK.due("does of 10", x.does(1023, 0, 0), -1);
        CHECK.due("does, pass 1 of 1", x.does(1, 1, 0), -1);
        CHECK.due("does, pass 0 of none", x.does(0, 0, 0), -1);
        CHECK.due("does, pass -1", x.does(1, -1, 0), -1);
        CHECK.due("does, walker 2 of 2", x.does(1, 0, 2), -1);
        CHECK.due("does, walker -1", x.does(1, 0, -1), -1);
    }

    private static String randomText(Random random, int cues) {
        StringBuilder text = new StringBuilder();
        text.append("walkers ").append(1 + random.nextInt(3)).append(";move ").append(random.nextInt(6)).append(';');
        for (int p = 0; p < 4; p++) text.append("prop ").append(random.nextInt(3)).append(';');
        int range = 8 + random.nextInt(40);
        for (int c = 0; c < cues; c++) {
            text.append("cue ").append(random.nextInt(range)).append(' ').append(1 + random.nextInt(12));
            text.append(' ').append(random.nextInt(4)).append(" 1;");
        }
        return text.toString();
    }

    private static void compareWithAllWays(Random random) {
        int cues = 1 + random.nextInt(6);
        String text = randomText(random, cues);
        StepsByHand x = Checks.told(text);
        int set = random.nextInt(1 << cues);
        AllWays ways = new AllWays(x, set);
        int fewest = ways.fewest();
        CHECK.due("passes of " + set + " of " + text, x.passes(set, 0), fewest);
        CHECK.due("going of " + set + " of " + text, x.passes(set, 1), ways.going());
        CHECK.due("bound of " + set + " of " + text, x.passes(set, 2), ways.bound());
        for (int i = 0; i < ways.cues.length; i++) {
            CHECK.due("pass of " + ways.cues[i] + " in " + set + " of " + text, x.plan(set, ways.cues[i], 0), ways.pass[i]);
            CHECK.due("walker of " + ways.cues[i] + " in " + set + " of " + text, x.plan(set, ways.cues[i], 1), ways.walker[i]);
        }
        for (int pass = 0; pass < fewest; pass++) {
            for (int walker = 0; walker < x.rule(0); walker++) {
                CHECK.due("does of " + set + " of " + text, x.does(set, pass, walker), ways.does(pass, walker));
            }
        }
    }

    /** Tries every pass and walker for every cue, from the least on, without any short cut. */
    private static final class AllWays {
        final StepsByHand x;
        final int[] cues;
        final int[] pass;
        final int[] walker;

        AllWays(StepsByHand x, int set) {
            this.x = x;
            cues = java.util.stream.IntStream.range(0, 16).filter(c -> (set >> c & 1) == 1).boxed()
                .sorted((a, b) -> x.cue(a, 0) != x.cue(b, 0) ? x.cue(a, 0) - x.cue(b, 0) : a - b)
                .mapToInt(c -> c).toArray();
            pass = new int[cues.length];
            walker = new int[cues.length];
        }

        int fewest() {
            int passes = 0;
            while (!place(0, passes)) passes++;
            return passes;
        }

        boolean place(int i, int passes) {
            if (i == cues.length) return true;
            for (pass[i] = 0; pass[i] < passes; pass[i]++) {
                for (walker[i] = 0; walker[i] < x.rule(0); walker[i]++) {
                    if (fits(i) && place(i + 1, passes)) return true;
                }
            }
            return false;
        }

        boolean fits(int i) {
            for (int j = 0; j < i; j++) {
                if (pass[j] != pass[i]) continue;
                if (tray(i) == tray(j) && beside(i, j)) return false;
                if (walker[j] == walker[i] && gap(j, i) < (tray(i) == tray(j) ? 0 : x.rule(1))) return false;
            }
            return true;
        }

        int tray(int i) {
            return x.prop(x.cue(cues[i], 2), 0);
        }

        int gap(int j, int i) {
            return x.cue(cues[i], 0) - (x.cue(cues[j], 0) + x.cue(cues[j], 1));
        }

        boolean sounds(int i, int f) {
            return x.cue(cues[i], 0) <= f && f < x.cue(cues[i], 0) + x.cue(cues[i], 1);
        }

        boolean beside(int i, int j) {
            for (int f = 0; f < 120; f++) {
                if (sounds(i, f) && sounds(j, f)) return true;
            }
            return false;
        }

        int going() {
            int changes = 0;
            for (int i = 0; i < cues.length; i++) {
                for (int j = i - 1; j >= 0; j--) {
                    if (pass[j] != pass[i] || walker[j] != walker[i]) continue;
                    if (tray(i) != tray(j)) changes++;
                    break;
                }
            }
            return changes;
        }

        int bound() {
            int bound = 0;
            for (int f = 0; f < 120; f++) {
                int[] onTray = new int[6];
                int all = 0;
                for (int i = 0; i < cues.length; i++) {
                    if (!sounds(i, f)) continue;
                    all++;
                    bound = Math.max(bound, ++onTray[tray(i)]);
                }
                bound = Math.max(bound, (int) Math.ceil(all / (double) x.rule(0)));
            }
            return bound;
        }

        int does(int ofPass, int byWalker) {
            int bits = 0;
            for (int i = 0; i < cues.length; i++) {
                if (pass[i] == ofPass && walker[i] == byWalker) bits |= 1 << cues[i];
            }
            return bits;
        }
    }
}
