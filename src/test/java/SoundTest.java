import java.util.Random;

/** Promises 21 to 29: what is heard, levels and where they clip, props that stand for others. */
public final class SoundTest {
    private static final Checks CHECK = new Checks("SoundTest");

    public static void main(String[] args) {
        underSpeech();
        levels();
        clipping();
        carrying();
        foreignMix();
        Random random = new Random(13);
        for (int round = 0; round < 400; round++) compareFrameByFrame(random);
        CHECK.finish();
    }

    private static void underSpeech() {
        StepsByHand x = Checks.told("prop 0;speech 10 10 5;speech 15 10 3;cue 8 4 0 5;cue 12 3 0 5;cue 15 20 0 3;cue 18 7 0 4;cue 0 9 0 1;");
        CHECK.due("ahead of speech", x.speech(9), 0);
        CHECK.due("first", x.speech(10), 5);
        CHECK.due("the loudest of two", x.speech(15), 5);
        CHECK.due("the other", x.speech(20), 3);
        CHECK.due("its last", x.speech(24), 3);
        CHECK.due("behind it", x.speech(25), 0);
        CHECK.due("speech(499)", x.speech(499), 0);
        CHECK.due("speech(500)", x.speech(500), -1);
        CHECK.due("speech(-1)", x.speech(-1), -1);
        int[] frames = {2, 0, 10, 5, 9};
        int[] firsts = {8, -4, 25, 20, 0};
        for (int c = 0; c < 5; c++) {
            CHECK.due("heard " + c, x.heard(c, 0), frames[c]);
            CHECK.due("first heard " + c, x.heard(c, 1), firsts[c]);
        }
        CHECK.due("masked", x.masked(), 2);
        CHECK.due("heard(5, 0)", x.heard(5, 0), -1);
        CHECK.due("heard(-1, 0)", x.heard(-1, 0), -1);
        CHECK.due("heard(0, 2)", x.heard(0, 2), -1);
        CHECK.due("heard(0, -1)", x.heard(0, -1), -1);
        x.shift(1, 300);
        CHECK.due("masked, shifted", x.masked(), 0);
    }

    private static void levels() {
        StepsByHand x = Checks.told("prop 0;tail 3;cue 10 2 0 4;cue 498 2 0 9;");
        int[] due = {0, 4, 4, 3, 3, 3, 2, 2, 2, 1, 1, 1, 0, 0};
        for (int i = 0; i < due.length; i++) CHECK.due("level in " + (9 + i), x.level(1, 9 + i, 0), due[i]);
        int[] lowered = {0, 2, 2, 1, 1, 1, 0, 0};
        for (int i = 0; i < lowered.length; i++) CHECK.due("lowered level in " + (9 + i), x.level(1, 9 + i, 2), lowered[i]);
        CHECK.due("lowered to 0", x.level(1, 10, 9), 0);
        CHECK.due("lowered below 0", x.level(1, 10, 5), 0);
        CHECK.due("the last frame", x.level(3, 499, 0), 9);
        CHECK.due("none", x.level(0, 10, 0), 0);
        CHECK.due("level, set", x.level(4, 10, 0), -1);
        CHECK.due("level, set -1", x.level(-1, 10, 0), -1);
        CHECK.due("level, frame 500", x.level(1, 500, 0), -1);
        CHECK.due("level, frame -1", x.level(1, -1, 0), -1);
        CHECK.due("level, n 10", x.level(1, 10, 10), -1);
        CHECK.due("level, n -1", x.level(1, 10, -1), -1);
    }

    private static void clipping() {
        StepsByHand x = Checks.told("prop 0;most 9;cue 10 5 0 9;cue 12 5 0 9;cue 499 1 0 9;");
        CHECK.due("one alone", x.clips(1, 0), 0);
        CHECK.due("one alone, first", x.clips(1, 1), -4);
        CHECK.due("one alone, greatest", x.clips(1, 2), 9);
        CHECK.due("one alone, where", x.clips(1, 3), 10);
        CHECK.due("two", x.clips(3, 0), 8);
        CHECK.due("two, first", x.clips(3, 1), 12);
        CHECK.due("two, greatest", x.clips(3, 2), 18);
        CHECK.due("two, where", x.clips(3, 3), 12);
        CHECK.due("none", x.clips(0, 0), 0);
        CHECK.due("none, first", x.clips(0, 1), -4);
        CHECK.due("none, greatest", x.clips(0, 2), 0);
        CHECK.due("none, where", x.clips(0, 3), 0);
        CHECK.due("clips, set", x.clips(8, 0), -1);
        CHECK.due("clips, set -1", x.clips(-1, 0), -1);
        CHECK.due("clips, what 4", x.clips(1, 4), -1);
        CHECK.due("clips, what -1", x.clips(1, -1), -1);
        CHECK.due("lower one", x.lower(1), 0);
        CHECK.due("lower two", x.lower(3), 5);
        CHECK.due("lower none", x.lower(0), 0);
        CHECK.due("lower, set", x.lower(8), -1);
        CHECK.due("lower, set -1", x.lower(-1), -1);
        StepsByHand first = Checks.told("prop 0;most 1;cue 0 1 0 2;");
        int[] due = {1, 0, 2, 0};
        for (int what = 0; what < 4; what++) CHECK.due("in the first frame alone, " + what, first.clips(1, what), due[what]);
        StepsByHand all = Checks.told("prop 0;most 1;" + "cue 1 1 0 9;".repeat(16));
        CHECK.due("16 of them", all.clips(65535, 2), 144);
        CHECK.due("lower 16 of them", all.lower(65535), 9);
        CHECK.due("a 17th", all.lower(65536), -1);
    }

    private static void carrying() {
        StepsByHand x = Checks.told("prop 0;prop 0;prop 0;prop 0;stands 3 2;stands 2 0;stands 1 0;cue 1 1 0 1;cue 1 1 1 1;cue 1 1 2 1;cue 1 1 3 1;");
        CHECK.due("for 0, the least", x.carry(1, 1), 1);
        CHECK.due("for 0 and 1", x.carry(3, 1), 2);
        CHECK.due("for 0 and 2", x.carry(5, 1), 4);
        CHECK.due("for 0, 2, 3", x.carry(13, 1), 8);
        CHECK.due("for all", x.carry(15, 1), 10);
        CHECK.due("how many for all", x.carry(15, 0), 2);
        CHECK.due("for 1 and 2, the least bits", x.carry(6, 1), 6);
        CHECK.due("for none", x.carry(0, 0), 0);
        CHECK.due("for none, which", x.carry(0, 1), 0);
        CHECK.due("carry, set", x.carry(16, 0), -1);
        CHECK.due("carry, set -1", x.carry(-1, 0), -1);
        CHECK.due("carry, what 2", x.carry(1, 2), -1);
        CHECK.due("carry, what -1", x.carry(1, -1), -1);
        CHECK.due("without any", x.without(15, 0), 15);
        CHECK.due("with the third", x.without(15, 4), 10);
        CHECK.due("with the fourth, by way of the third", x.without(15, 8), 2);
        CHECK.due("of a set alone", x.without(5, 2), 4);
        CHECK.due("without, set", x.without(16, 0), -1);
        CHECK.due("without, set -1", x.without(-1, 0), -1);
        CHECK.due("without, props", x.without(1, 16), -1);
        CHECK.due("without, props -1", x.without(1, -1), -1);
        CHECK.due("without, all props", x.without(15, 15), 0);
    }

    private static void foreignMix() {
        StepsByHand x = Checks.told("prop 0;prop 0;prop 0;stands 1 0;speech 0 10 5;"
            + "cue 0 5 0 5 talk;cue 0 5 0 6 talk;cue 9 2 0 1 talk;cue 20 2 2 1 talk;cue 20 2 2 1;");
        CHECK.due("wanted", x.foreign(0, 0), 14);
        CHECK.due("wanted, whatever is there", x.foreign(7, 0), 14);
        CHECK.due("without any", x.foreign(0, 1), 14);
        CHECK.due("with one that stands for another", x.foreign(2, 1), 8);
        CHECK.due("with the third", x.foreign(4, 1), 6);
        CHECK.due("with all", x.foreign(7, 1), 0);
        CHECK.due("foreign, props", x.foreign(8, 0), -1);
        CHECK.due("foreign, props -1", x.foreign(-1, 1), -1);
        CHECK.due("foreign, what 2", x.foreign(0, 2), -1);
        CHECK.due("foreign, what -1", x.foreign(0, -1), -1);
    }

    private static String randomText(Random random, int props, int cues) {
        StringBuilder text = new StringBuilder();
        for (int p = 0; p < props; p++) text.append("prop 0;");
        for (int a = 0; a < props; a++) {
            int b = random.nextInt(props);
            if (b != a && random.nextInt(2) == 0) text.append("stands ").append(a).append(' ').append(b).append(';');
        }
        text.append("tail ").append(1 + random.nextInt(9)).append(";most ").append(1 + random.nextInt(40)).append(';');
        int base = random.nextInt(3) * 200;
        for (int c = 0; c < cues; c++) {
            int begin = base + random.nextInt(60);
            text.append("cue ").append(begin).append(' ').append(1 + random.nextInt(Math.min(60, 500 - begin)));
            text.append(' ').append(random.nextInt(props)).append(' ').append(1 + random.nextInt(9));
            text.append(random.nextInt(2) == 0 ? "talk;" : ";");
        }
        for (int s = 0; s < 3; s++) {
            int begin = base + random.nextInt(60);
            text.append("speech ").append(begin).append(' ').append(1 + random.nextInt(Math.min(90, 500 - begin)));
            text.append(' ').append(1 + random.nextInt(9)).append(';');
        }
        return text.toString();
    }

    private static void compareFrameByFrame(Random random) {
        int props = 1 + random.nextInt(8);
        int cues = 1 + random.nextInt(10);
        String text = randomText(random, props, cues);
        StepsByHand x = Checks.told(text);
        int set = random.nextInt(1 << cues);
        compareLevels(x, set, text);
        compareHeard(x, cues, text);
        compareCarry(x, set, props, text);
    }

    private static int levelByHand(StepsByHand x, int c, int f, int n) {
        int now = Math.max(0, x.cue(c, 3) - n);
        int end = x.cue(c, 0) + x.cue(c, 1);
        for (int at = end; at <= f; at++) {
            if ((at - end) % x.rule(2) == 0) now = Math.max(0, now - 1);
        }
        return f < x.cue(c, 0) ? 0 : now;
    }

    private static void compareLevels(StepsByHand x, int set, String text) {
        int least = -1;
        for (int n = 0; n <= 9 && least < 0; n++) {
            int clips = 0;
            int first = -4;
            int greatest = 0;
            int where = 0;
            for (int f = 0; f < 500; f++) {
                int sum = 0;
                for (int c = 0; c < x.count(1); c++) sum += (set >> c & 1) == 1 ? levelByHand(x, c, f, n) : 0;
                if (f % 7 == n % 7) CHECK.due("level of " + set + " in " + f + " by " + n + " of " + text, x.level(set, f, n), sum);
                if (sum > greatest) where = f;
                greatest = Math.max(greatest, sum);
                if (sum > x.rule(3) && clips++ == 0) first = f;
            }
            if (clips == 0) least = n;
            if (n > 0) continue;
            int[] due = {clips, first, greatest, where};
            for (int what = 0; what < 4; what++) CHECK.due("clips of " + set + " " + what + " of " + text, x.clips(set, what), due[what]);
        }
        CHECK.due("lower " + set + " of " + text, x.lower(set), least);
    }

    private static void compareHeard(StepsByHand x, int cues, String text) {
        int masked = 0;
        int wanted = 0;
        for (int c = 0; c < cues; c++) {
            int frames = 0;
            int first = -4;
            for (int f = x.cue(c, 0); f < x.cue(c, 0) + x.cue(c, 1); f++) {
                if (x.cue(c, 3) > x.speech(f) && frames++ == 0) first = f;
            }
            CHECK.due("heard " + c + " of " + text, x.heard(c, 0), frames);
            CHECK.due("first heard " + c + " of " + text, x.heard(c, 1), first);
            if (frames == 0) masked |= 1 << c;
            if (frames > 0 && x.cue(c, 4) == 1) wanted |= 1 << c;
        }
        CHECK.due("masked of " + text, x.masked(), masked);
        CHECK.due("foreign of " + text, x.foreign(0, 0), wanted);
    }

    private static void compareCarry(StepsByHand x, int set, int props, String text) {
        int best = -1;
        for (int load = 0; load < 1 << props; load++) {
            int lacking = 0;
            for (int c = 0; c < x.count(1); c++) {
                boolean done = (set >> c & 1) == 0;
                for (int p = 0; p < props; p++) done |= (load >> p & 1) == 1 && (x.prop(p, 1) >> x.cue(c, 2) & 1) == 1;
                if (!done) lacking |= 1 << c;
            }
            if (load % 5 == 0) CHECK.due("without " + set + " " + load + " of " + text, x.without(set, load), lacking);
            if (lacking == 0 && (best < 0 || Integer.bitCount(load) < Integer.bitCount(best))) best = load;
            if (load % 9 == 0) CHECK.due("foreign " + load + " of " + text, x.foreign(load, 1), x.without(x.foreign(load, 0), load));
        }
        CHECK.due("carry " + set + " of " + text, x.carry(set, 1), best);
        CHECK.due("carry " + set + ", how many, of " + text, x.carry(set, 0), Integer.bitCount(best));
    }
}
