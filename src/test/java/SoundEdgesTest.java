/** The edges of promises 21 to 29: speech, heard, masked, level, clips, lower, carry, without, foreign. */
public final class SoundEdgesTest {
    private static final Edges EDGE = new Edges("SoundEdgesTest");
    private static final int BAD = Room.BAD, NONE = Room.NONE, ALL = Room.ALL_CUES;

    public static void main(String[] args) {
        speechAtItsEdges();
        speechOfSeveral();
        heardWhenLouder();
        heardAtSingleFrames();
        heardRefused();
        maskedOrNot();
        levelAtItsEdges();
        levelOfTheTail();
        levelLowered();
        levelRefused();
        clipsAboveMost();
        clipsOfNone();
        clipsToTheLastFrame();
        clipsRefused();
        loweredAsLittleAsMayBe();
        lowerRefused();
        carryTheFewest();
        carryRefused();
        withoutSome();
        withoutRefused();
        foreignWants();
        foreignRefused();
        EDGE.finish(21, 29);
    }

    private static void speechAtItsEdges() {
        EDGE.words(21, "speech: from a FRAME on, how many");
        StepsByHand x = Checks.told("speech 10 5 9;speech 499 1 1;speech 0 1 2;");
        int[] frames = {0, 1, 9, 10, 14, 15, 498, 499};
        int[] louds = {2, 0, 0, 9, 9, 0, 0, 1};
        for (int i = 0; i < frames.length; i++) EDGE.due("speech(" + frames[i] + ")", x.speech(frames[i]), louds[i]);
        StepsByHand whole = Checks.told("speech 0 500 3;");
        EDGE.due("all 500: speech(0)", whole.speech(0), 3);
        EDGE.due("all 500: speech(499)", whole.speech(499), 3);
        EDGE.words(21, "BAD: there is no such FRAME");
        EDGE.from(Room::some);
        EDGE.outside("speech(#)", 0, 499, BAD, (y, v) -> y.speech(v));
        EDGE.from(StepsByHand::new);
        EDGE.outside("speech(#) of none", 0, 499, BAD, (y, v) -> y.speech(v));
    }

    private static void speechOfSeveral() {
        EDGE.words(21, "of several at once the loudest; 0: none");
        StepsByHand x = Checks.told("speech 10 10 3;speech 15 10 5;speech 18 1 9;speech 18 1 1;speech 24 2 4;");
        int[] frames = {14, 15, 17, 18, 19, 20, 24, 25, 26};
        int[] louds = {3, 5, 5, 9, 5, 5, 5, 4, 0};
        for (int i = 0; i < frames.length; i++) EDGE.due("speech(" + frames[i] + ")", x.speech(frames[i]), louds[i]);
        StringBuilder eight = new StringBuilder();
        for (int s = 0; s < 8; s++) eight.append("speech 7 1 ").append(s + 1).append(';');
        EDGE.due("the 8th of 8", Checks.told(eight.toString()).speech(7), 8);
        EDGE.due("none told", new StepsByHand().speech(499), 0);
    }

    private static void heardWhenLouder() {
        EDGE.words(22, "LOUDER than all speech there");
        for (int loud = 1; loud <= 9; loud++) {
            StepsByHand x = Checks.told("prop 0;speech 0 500 5;cue 100 60 0 " + loud + ";");
            EDGE.due("LOUD " + loud + " under 5: heard(0, 0)", x.heard(0, 0), loud > 5 ? 60 : 0);
            EDGE.due("LOUD " + loud + " under 5: heard(0, 1)", x.heard(0, 1), loud > 5 ? 100 : NONE);
        }
        StepsByHand none = Checks.told("prop 0;cue 440 60 0 1;cue 499 1 0 1;cue 0 1 0 1;");
        EDGE.due("no speech: heard(0, 0)", none.heard(0, 0), 60);
        EDGE.due("the last FRAME: heard(1, 1)", none.heard(1, 1), 499);
        EDGE.due("the first FRAME: heard(2, 1)", none.heard(2, 1), 0);
        StepsByHand two = Checks.told("prop 0;speech 0 9 3;speech 0 9 6;cue 0 9 0 6;cue 0 9 0 7;cue 0 9 0 5;");
        EDGE.due("of two as loud as the loudest", two.heard(0, 0), 0);
        EDGE.due("of two louder than both", two.heard(1, 0), 9);
        EDGE.due("of two louder than one", two.heard(2, 0), 0);
    }

    private static void heardAtSingleFrames() {
        EDGE.words(22, "In how many FRAMES a CUE is HEARD (what 0), the first (1; NONE)");
        StepsByHand x = Checks.told("prop 0;speech 10 10 9;cue 9 11 0 9;cue 10 11 0 9;cue 10 10 0 9;cue 9 12 0 9;cue 20 1 0 1;cue 9 1 0 1;");
        int[] frames = {1, 1, 0, 2, 1, 1};
        int[] firsts = {9, 20, NONE, 9, 20, 9};
        for (int c = 0; c < 6; c++) {
            EDGE.due("heard(" + c + ", 0)", x.heard(c, 0), frames[c]);
            EDGE.due("heard(" + c + ", 1)", x.heard(c, 1), firsts[c]);
        }
    }

    private static void heardRefused() {
        EDGE.words(22, "BAD");
        EDGE.from(Room::some);
        EDGE.outside("heard(#, 0) of 6", 0, 5, BAD, (x, v) -> x.heard(v, 0));
        EDGE.outside("heard(#, 1) of 6", 0, 5, BAD, (x, v) -> x.heard(v, 1));
        EDGE.outside("heard(0, #)", 0, 1, BAD, (x, v) -> x.heard(0, v));
        EDGE.from(Room::full);
        EDGE.outside("heard(#, 0) of 16", 0, 15, BAD, (x, v) -> x.heard(v, 0));
        EDGE.words(22, "the first that fits: BAD ahead of NONE");
        EDGE.from(() -> Checks.told("prop 0;speech 0 9 9;cue 0 1 0 9;"));
        EDGE.outside("heard(0, #) of one that is masked", 0, 1, BAD, (x, v) -> x.heard(0, v));
    }

    private static void maskedOrNot() {
        EDGE.words(23, "MASKED: in none");
        EDGE.due("no CUES", Checks.told("speech 0 500 9;").masked(), 0);
        EDGE.due("no speech", Checks.told("prop 0;" + "cue 0 1 0 1;".repeat(16)).masked(), 0);
        EDGE.due("all 16", Checks.told("prop 0;speech 0 500 9;" + "cue 0 60 0 9;".repeat(16)).masked(), ALL);
        StepsByHand x = Checks.told("prop 0;speech 10 10 5;cue 10 10 0 5;cue 9 11 0 5;cue 10 11 0 5;cue 10 10 0 6;cue 19 1 0 1;cue 20 1 0 1;");
        EDGE.due("as loud, a FRAME ahead, a FRAME behind, louder, the last FRAME, behind it", x.masked(), 1 + 16);
        EDGE.due("shift(0, 11)", x.shift(0, 11), 10);
        EDGE.due("shifted out by a FRAME", x.masked(), 16);
        EDGE.due("shift(5, 19)", x.shift(5, 19), 20);
        EDGE.due("shifted in by a FRAME", x.masked(), 16 + 32);
    }

    private static void levelAtItsEdges() {
        EDGE.words(24, "LOUD while it sounds");
        StepsByHand x = Checks.told("prop 0;cue 10 5 0 9;cue 0 1 0 7;cue 499 1 0 8;");
        EDGE.due("a FRAME ahead", x.level(1, 9, 0), 0);
        EDGE.due("its first", x.level(1, 10, 0), 9);
        EDGE.due("its last", x.level(1, 14, 0), 9);
        EDGE.due("the first FRAME", x.level(2, 0, 0), 7);
        EDGE.due("the last FRAME", x.level(4, 499, 0), 8);
        EDGE.due("ahead of the last FRAME", x.level(4, 498, 0), 0);
        EDGE.words(24, "LEVEL of a set: summed");
        EDGE.due("none", x.level(0, 10, 0), 0);
        EDGE.due("all", x.level(7, 10, 0), 9);
        StepsByHand full = Room.full();
        EDGE.due("16 of LOUD 9", full.level(ALL, 9, 0), 144);
        EDGE.due("15 of them", full.level(ALL >> 1, 17, 0), 135);
        EDGE.due("the 16th alone", full.level(1 << 15, 17, 0), 9);
    }

    private static void levelOfTheTail() {
        EDGE.words(24, "behind that 1 less for each tail FRAMES that begin (its first FRAME behind: 1 less), 0 at least");
        for (int tail = 1; tail <= 9; tail++) {
            StepsByHand x = Checks.told("prop 0;tail " + tail + ";cue 10 1 0 3;");
            int[] frames = {10, 11, 10 + tail, 11 + tail, 10 + 2 * tail, 11 + 2 * tail, 12 + 2 * tail, 11 + 9 * tail, 499};
            int[] due = {3, 2, 2, 1, 1, 0, 0, 0, 0};
            for (int i = 0; i < frames.length; i++) EDGE.due("tail " + tail + ", level(1, " + frames[i] + ", 0)", x.level(1, frames[i], 0), due[i]);
        }
        StepsByHand one = Checks.told("prop 0;tail 9;cue 10 1 0 1;");
        EDGE.due("LOUD 1: no tail", one.level(1, 11, 0), 0);
        StepsByHand longest = Checks.told("prop 0;tail 9;cue 0 1 0 9;");
        EDGE.due("LOUD 9, tail 9, the last of 8 times 9", longest.level(1, 72, 0), 1);
        EDGE.due("LOUD 9, tail 9, behind it", longest.level(1, 73, 0), 0);
    }

    private static void levelLowered() {
        EDGE.words(24, "LOWERED by n (0 to 9): each CUE's LOUD is n less (0 at least) for its LEVEL");
        StepsByHand x = Checks.told("prop 0;tail 2;cue 10 1 0 5;cue 10 1 0 9;");
        for (int n = 0; n <= 9; n++) {
            EDGE.due("level(1, 10, " + n + ")", x.level(1, 10, n), Math.max(0, 5 - n));
            EDGE.due("level(2, 10, " + n + ")", x.level(2, 10, n), 9 - n);
            EDGE.due("level(3, 10, " + n + ")", x.level(3, 10, n), Math.max(0, 5 - n) + 9 - n);
            EDGE.due("behind: level(1, 12, " + n + ")", x.level(1, 12, n), Math.max(0, 4 - n));
            EDGE.due("behind: level(1, 13, " + n + ")", x.level(1, 13, n), Math.max(0, 3 - n));
        }
        EDGE.due("what it is asked for stays: cue(0, 3)", x.cue(0, 3), 5);
    }

    private static void levelRefused() {
        EDGE.words(24, "BAD");
        EDGE.from(Room::some);
        EDGE.outside("level(#, 0, 0) of 6", 0, 63, BAD, (x, v) -> x.level(v, 0, 0));
        EDGE.outside("level(1, #, 0)", 0, 499, BAD, (x, v) -> x.level(1, v, 0));
        EDGE.outside("level(1, 0, #)", 0, 9, BAD, (x, v) -> x.level(1, 0, v));
        EDGE.outside("level(0, #, 0)", 0, 499, BAD, (x, v) -> x.level(0, v, 0));
        EDGE.from(Room::full);
        EDGE.outside("level(#, 0, 0) of 16", 0, ALL, BAD, (x, v) -> x.level(v, 0, 0));
    }

    private static void clipsAboveMost() {
        EDGE.words(25, "It CLIPS where that is above most");
        for (int most = 8; most <= 10; most++) {
            StepsByHand x = Checks.told("prop 0;most " + most + ";cue 20 5 0 9;");
            EDGE.due("LOUD 9, most " + most + ": how many", x.clips(1, 0), most < 9 ? 5 : 0);
            EDGE.due("LOUD 9, most " + most + ": the first", x.clips(1, 1), most < 9 ? 20 : NONE);
            EDGE.due("LOUD 9, most " + most + ": the greatest", x.clips(1, 2), 9);
            EDGE.due("LOUD 9, most " + most + ": where", x.clips(1, 3), 20);
        }
        StepsByHand least = Checks.told("prop 0;tail 9;most 1;cue 0 1 0 9;");
        EDGE.due("most 1, tail 9: how many", least.clips(1, 0), 1 + 7 * 9);
        StepsByHand greatest = Checks.told("prop 0;" + "cue 3 2 0 9;".repeat(11) + "cue 4 1 0 1;");
        EDGE.due("99 of most 99", greatest.clips(2047, 0), 0);
        EDGE.due("100 of most 99", greatest.clips(4095, 0), 1);
        EDGE.due("100 of most 99, the first", greatest.clips(4095, 1), 4);
        EDGE.words(25, "the greatest LEVEL (2), the first FRAME with that (3)");
        StepsByHand twice = Checks.told("prop 0;most 9;cue 40 3 0 9;cue 20 3 0 9;cue 21 1 0 1;cue 41 1 0 1;");
        EDGE.due("twice the same: how many", twice.clips(15, 0), 2);
        EDGE.due("twice the same: the first", twice.clips(15, 1), 21);
        EDGE.due("twice the same: the greatest", twice.clips(15, 2), 10);
        EDGE.due("twice the same: where first", twice.clips(15, 3), 21);
        EDGE.due("of the set alone: where", twice.clips(9, 3), 41);
    }

    private static void clipsOfNone() {
        EDGE.words(25, "the first (1; NONE); the greatest LEVEL of none is 0, in the first FRAME");
        int[] due = {0, NONE, 0, 0};
        for (int what = 0; what < 4; what++) {
            EDGE.due("no CUES: clips(0, " + what + ")", new StepsByHand().clips(0, what), due[what]);
            EDGE.due("none of 16: clips(0, " + what + ")", Room.full().clips(0, what), due[what]);
        }
    }

    private static void clipsToTheLastFrame() {
        EDGE.words(25, "FRAMES 0 to 499: tails end there");
        StepsByHand x = Checks.told("prop 0;tail 9;most 1;cue 490 10 0 9;cue 480 10 0 9;cue 0 1 0 9;");
        EDGE.due("to its end: how many", x.clips(1, 0), 10);
        EDGE.due("with a tail: how many", x.clips(2, 0), 20);
        EDGE.due("from the first FRAME: the first", x.clips(4, 1), 0);
        EDGE.due("in the first FRAME: the greatest", x.clips(4, 2), 9);
        EDGE.due("in the first FRAME: where", x.clips(4, 3), 0);
        EDGE.due("to the last FRAME: where", Checks.told("prop 0;cue 499 1 0 2;").clips(1, 3), 499);
        EDGE.due("all: where", x.clips(7, 3), 490);
        EDGE.due("all: the greatest", x.clips(7, 2), 17);
    }

    private static void clipsRefused() {
        EDGE.words(25, "BAD");
        EDGE.from(Room::some);
        EDGE.outside("clips(#, 0) of 6", 0, 63, BAD, (x, v) -> x.clips(v, 0));
        EDGE.outside("clips(#, 3) of 6", 0, 63, BAD, (x, v) -> x.clips(v, 3));
        EDGE.outside("clips(1, #)", 0, 3, BAD, (x, v) -> x.clips(1, v));
        EDGE.from(Room::full);
        EDGE.outside("clips(#, 0) of 16", 0, ALL, BAD, (x, v) -> x.clips(v, 0));
        EDGE.words(25, "the first that fits: BAD ahead of NONE");
        EDGE.from(StepsByHand::new);
        EDGE.outside("clips(0, #) of none", 0, 3, BAD, (x, v) -> x.clips(0, v));
        EDGE.outside("clips(#, 1) of none", 0, 0, BAD, (x, v) -> x.clips(v, 1));
    }

    private static void loweredAsLittleAsMayBe() {
        EDGE.words(26, "By how little a set must be LOWERED so that it CLIPS nowhere");
        EDGE.due("none", Room.full().lower(0), 0);
        for (int most = 1; most <= 10; most++) {
            StepsByHand x = Checks.told("prop 0;most " + most + ";cue 20 5 0 9;");
            EDGE.due("LOUD 9, most " + most, x.lower(1), Math.max(0, 9 - most));
        }
        for (int most = 15; most <= 18; most++) {
            StepsByHand x = Checks.told("prop 0;most " + most + ";" + "cue 20 5 0 9;".repeat(16));
            EDGE.due("16 of LOUD 9, most " + most, x.lower(ALL), most < 16 ? 9 : 8);
        }
        EDGE.due("16 of LOUD 9, most 99", Room.full().lower(ALL), 3);
        StepsByHand tails = Checks.told("prop 0;tail 9;most 9;cue 20 5 0 5;cue 25 5 0 9;");
        EDGE.due("by its tail: 4 and 9", tails.clips(3, 2), 13);
        EDGE.due("by its tail: lower(3)", tails.lower(3), 2);
        StepsByHand unlike = Checks.told("prop 0;most 3;cue 20 5 0 1;cue 20 5 0 1;cue 20 5 0 1;cue 20 5 0 9;");
        EDGE.due("0 at least: lower(15)", unlike.lower(15), 6);
    }

    private static void lowerRefused() {
        EDGE.words(26, "BAD");
        EDGE.from(Room::some);
        EDGE.outside("lower(#) of 6", 0, 63, BAD, (x, v) -> x.lower(v));
        EDGE.from(Room::full);
        EDGE.outside("lower(#) of 16", 0, ALL, BAD, (x, v) -> x.lower(v));
        EDGE.from(StepsByHand::new);
        EDGE.outside("lower(#) of none", 0, 0, BAD, (x, v) -> x.lower(v));
    }

    private static void carryTheFewest() {
        EDGE.words(27, "the fewest PROPS so that for each CUE of a set some PROP that may stand for its own is there");
        StringBuilder text = new StringBuilder("prop 0;".repeat(8));
        for (int p = 0; p < 8; p++) text.append("cue 0 1 ").append(p).append(" 1;");
        StepsByHand alone = Checks.told(text.toString());
        EDGE.due("none: how many", alone.carry(0, 0), 0);
        EDGE.due("none: these", alone.carry(0, 1), 0);
        EDGE.due("8 alone: how many", alone.carry(255, 0), 8);
        EDGE.due("8 alone: these", alone.carry(255, 1), 255);
        EDGE.due("the last alone", alone.carry(128, 1), 128);
        StepsByHand chain = Checks.told(text + "stands 7 6;stands 6 5;stands 5 4;stands 4 3;stands 3 2;stands 2 1;stands 1 0;");
        EDGE.due("a chain: how many", chain.carry(255, 0), 1);
        EDGE.due("a chain: these", chain.carry(255, 1), 128);
        EDGE.due("a chain, for the last: the least bits", chain.carry(1, 1), 1);
        EDGE.due("a chain, for one in its midst", chain.carry(8 + 1, 1), 8);
        EDGE.words(27, "of several the least bits");
        StepsByHand several = Checks.told("prop 0;".repeat(4) + "stands 0 2;stands 0 3;stands 1 2;stands 1 3;cue 0 1 2 1;cue 0 1 3 1;cue 0 1 2 1;");
        EDGE.due("0 or 1 for both", several.carry(3, 1), 1);
        EDGE.due("0, 1 or itself", several.carry(2, 1), 1);
        EDGE.due("the same PROP twice", several.carry(5, 0), 1);
        StepsByHand two = Checks.told("prop 0;".repeat(5) + "stands 4 0;stands 4 1;stands 3 1;stands 3 2;cue 0 1 0 1;cue 0 1 1 1;cue 0 1 2 1;");
        EDGE.due("two of several", two.carry(7, 0), 2);
        EDGE.due("two of several, the least bits", two.carry(7, 1), 1 + 8);
    }

    private static void carryRefused() {
        EDGE.words(27, "BAD");
        EDGE.from(Room::some);
        EDGE.outside("carry(#, 0) of 6", 0, 63, BAD, (x, v) -> x.carry(v, 0));
        EDGE.outside("carry(#, 1) of 6", 0, 63, BAD, (x, v) -> x.carry(v, 1));
        EDGE.outside("carry(1, #)", 0, 1, BAD, (x, v) -> x.carry(1, v));
        EDGE.outside("carry(0, #)", 0, 1, BAD, (x, v) -> x.carry(0, v));
        EDGE.from(Room::full);
        EDGE.outside("carry(#, 0) of 16", 0, ALL, BAD, (x, v) -> x.carry(v, 0));
    }

    private static void withoutSome() {
        EDGE.words(28, "CUES of a set that can not be done, if just some PROPS are there (bits both)");
        StepsByHand x = Checks.told("prop 0;".repeat(8) + "stands 7 6;stands 6 5;cue 0 1 5 1;cue 0 1 6 1;cue 0 1 7 1;cue 0 1 0 1;");
        EDGE.due("none there", x.without(15, 0), 15);
        EDGE.due("all there", x.without(15, 255), 0);
        EDGE.due("none asked for", x.without(0, 0), 0);
        EDGE.due("none asked for, all there", x.without(0, 255), 0);
        EDGE.due("the last of a chain", x.without(15, 32), 14);
        EDGE.due("the midst of a chain", x.without(15, 64), 12);
        EDGE.due("the first of a chain", x.without(15, 128), 8);
        EDGE.due("of a set alone", x.without(9, 128), 8);
        EDGE.due("those that stand for none", x.without(15, 2 + 4 + 8 + 16), 15);
        EDGE.due("16 CUES", Room.full().without(ALL, 127), ALL);
        EDGE.due("16 CUES, the 8th PROP", Room.full().without(ALL, 128), 0);
    }

    private static void withoutRefused() {
        EDGE.words(28, "BAD");
        EDGE.from(Room::some);
        EDGE.outside("without(#, 0) of 6", 0, 63, BAD, (x, v) -> x.without(v, 0));
        EDGE.outside("without(1, #) of 3", 0, 7, BAD, (x, v) -> x.without(1, v));
        EDGE.outside("without(0, #) of 3", 0, 7, BAD, (x, v) -> x.without(0, v));
        EDGE.from(Room::full);
        EDGE.outside("without(#, 0) of 16", 0, ALL, BAD, (x, v) -> x.without(v, 0));
        EDGE.outside("without(1, #) of 8", 0, 255, BAD, (x, v) -> x.without(1, v));
    }

    private static void foreignWants() {
        EDGE.words(29, "those on the TALK track that are not MASKED (what 0)");
        StepsByHand x = Checks.told("prop 0;prop 0;prop 0;stands 2 1;speech 10 10 5;cue 10 10 0 5 talk;cue 10 10 0 6 talk;cue 9 2 1 1 talk;cue 19 2 2 1 talk;cue 10 10 0 6;");
        EDGE.due("as loud, louder, a FRAME ahead, a FRAME behind, not TALK", x.foreign(0, 0), 2 + 4 + 8);
        EDGE.due("whatever is there", x.foreign(7, 0), 2 + 4 + 8);
        EDGE.words(29, "of these those without a PROP of some that are there (bits; what 1)");
        EDGE.due("none there", x.foreign(0, 1), 2 + 4 + 8);
        EDGE.due("all there", x.foreign(7, 1), 0);
        EDGE.due("the first", x.foreign(1, 1), 4 + 8);
        EDGE.due("the second", x.foreign(2, 1), 2 + 8);
        EDGE.due("the third, that may stand for the second", x.foreign(4, 1), 2);
        EDGE.due("no CUES", Checks.told("prop 0;").foreign(1, 0), 0);
        EDGE.due("all 16", Room.full().foreign(255, 0), ALL);
        EDGE.due("all 16, without theirs", Room.full().foreign(127, 1), ALL);
        EDGE.due("all 16, with theirs", Room.full().foreign(128, 1), 0);
    }

    private static void foreignRefused() {
        EDGE.words(29, "BAD");
        EDGE.from(Room::some);
        EDGE.outside("foreign(#, 0) of 3", 0, 7, BAD, (x, v) -> x.foreign(v, 0));
        EDGE.outside("foreign(#, 1) of 3", 0, 7, BAD, (x, v) -> x.foreign(v, 1));
        EDGE.outside("foreign(0, #)", 0, 1, BAD, (x, v) -> x.foreign(0, v));
        EDGE.from(Room::full);
        EDGE.outside("foreign(#, 0) of 8", 0, 255, BAD, (x, v) -> x.foreign(v, 0));
        EDGE.from(StepsByHand::new);
        EDGE.outside("foreign(#, 0) of none", 0, 0, BAD, (x, v) -> x.foreign(v, 0));
    }
}
