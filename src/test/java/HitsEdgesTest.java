import java.util.function.Supplier;

/** The edges of promises 15 to 20: hit, wipe, miss, slip, cuts, enough. */
public final class HitsEdgesTest {
    private static final Edges EDGE = new Edges("HitsEdgesTest");
    private static final int BAD = Room.BAD, STATE = Room.STATE, FULL = Room.FULL, NONE = Room.NONE;

    public static void main(String[] args) {
        hitsToTheLastFrame();
        hitsNotLater();
        hitsOfTwelve();
        wiped();
        missByEveryMove();
        missRefused();
        notAsManyOfBoth();
        slipsToTheFarthest();
        slipsOfSeveral();
        slipRefused();
        cutBehindTheTail();
        partsBehindTheTail();
        partsBySingleMoves();
        cutsAtMost();
        cutsRefused();
        enoughExactly();
        enoughRefused();
        EDGE.finish(15, 20);
    }

    private static StepsByHand hits(String text, int[] picture, int[] take) {
        StepsByHand x = Checks.told(text);
        for (int f : picture) x.hit(0, f);
        for (int f : take) x.hit(1, f);
        return x;
    }

    private static int[] row(int... frames) {
        return frames;
    }

    private static void hitsToTheLastFrame() {
        EDGE.words(15, "FRAMES 0 to 499");
        for (int side = 0; side < 2; side++) {
            StepsByHand x = new StepsByHand();
            EDGE.due("hit(" + side + ", 0)", x.hit(side, 0), 1);
            EDGE.due("hit(" + side + ", 1)", x.hit(side, 1), 2);
            EDGE.due("hit(" + side + ", 499)", x.hit(side, 499), 3);
            EDGE.due("none later: hit(" + side + ", 499)", x.hit(side, 499), BAD);
            EDGE.due("hit(" + side + ", 500)", x.hit(side, 500), BAD);
            EDGE.due("count", x.count(3 + side), 3);
            EDGE.due("count of the other side", x.count(4 - side), 0);
        }
        EDGE.from(Room::some);
        EDGE.outside("hit(0, #)", 26, 499, BAD, (x, v) -> x.hit(0, v));
        EDGE.outside("hit(1, #)", 31, 499, BAD, (x, v) -> x.hit(1, v));
        EDGE.from(StepsByHand::new);
        EDGE.outside("hit(0, #) of none", 0, 499, BAD, (x, v) -> x.hit(0, v));
        EDGE.words(15, "the picture (side 0), the TAKE (1)");
        EDGE.from(Room::some);
        EDGE.outside("hit(#, 400)", 0, 1, BAD, (x, v) -> x.hit(v, 400));
    }

    private static void hitsNotLater() {
        EDGE.words(15, "BAD: also not later");
        EDGE.from(() -> hits("", row(5, 9), row(7)));
        EDGE.refused("hit(0, 9) behind 9", BAD, x -> x.hit(0, 9));
        EDGE.refused("hit(0, 8) behind 9", BAD, x -> x.hit(0, 8));
        EDGE.refused("hit(0, 0) behind 9", BAD, x -> x.hit(0, 0));
        EDGE.refused("hit(1, 7) behind 7", BAD, x -> x.hit(1, 7));
        EDGE.due("hit(0, 10) behind 9", hits("", row(5, 9), row(7)).hit(0, 10), 3);
        EDGE.due("hit(1, 8) behind 7, whatever the other side has", hits("", row(5, 9), row(7)).hit(1, 8), 2);
    }

    private static void hitsOfTwelve() {
        EDGE.words(15, "HITS (12 each): FULL");
        StepsByHand x = new StepsByHand();
        for (int i = 1; i <= 12; i++) {
            EDGE.due("hit(0, ..) " + i, x.hit(0, 2 * i), i);
            EDGE.due("hit(1, ..) " + i, x.hit(1, 3 * i), i);
        }
        EDGE.from(Room::full);
        EDGE.refused("hit(0, 111), the 13th", FULL, y -> y.hit(0, 111));
        EDGE.refused("hit(1, 122), the 13th", FULL, y -> y.hit(1, 122));
        EDGE.refused("hit(0, 499), the 13th", FULL, y -> y.hit(0, 499));
        EDGE.words(15, "the first that fits: BAD ahead of FULL");
        EDGE.refused("hit(0, 110), the 13th, not later", BAD, y -> y.hit(0, 110));
        EDGE.refused("hit(1, 0), the 13th, not later", BAD, y -> y.hit(1, 0));
        EDGE.outside("hit(0, #), the 13th", 111, 499, BAD, (y, v) -> y.hit(0, v));
        EDGE.outside("hit(#, 499), the 13th", 0, 1, BAD, (y, v) -> y.hit(v, 499));
        StepsByHand one = new StepsByHand();
        for (int i = 0; i < 12; i++) one.hit(0, i);
        EDGE.due("the other side has room", one.hit(1, 0), 1);
    }

    private static void wiped() {
        EDGE.words(16, "All HITS are gone: how many there were");
        EDGE.due("of none", new StepsByHand().wipe(), 0);
        StepsByHand x = Room.full();
        EDGE.due("of 24", x.wipe(), 24);
        EDGE.due("again", x.wipe(), 0);
        EDGE.due("count(3)", x.count(3), 0);
        EDGE.due("count(4)", x.count(4), 0);
        EDGE.due("miss(0)", x.miss(0), STATE);
        EDGE.due("hit(0, 0)", x.hit(0, 0), 1);
        EDGE.due("hit(1, 0)", x.hit(1, 0), 1);
        EDGE.due("miss(0)", x.miss(0), 0);
        EDGE.due("of one side alone", hits("", row(1, 2, 3), row()).wipe(), 3);
        EDGE.due("of the other side alone", hits("", row(), row(1, 2)).wipe(), 2);
        StepsByHand kept = Room.full();
        kept.wipe();
        int[] counts = {8, 16, 8, 0, 0, 8, 12, 12, 400, 40};
        for (int what = 0; what < 10; what++) EDGE.due("all else stays: count(" + what + ")", kept.count(what), counts[what]);
    }

    private static void missByEveryMove() {
        EDGE.words(17, "the sum of differences, without signs, of the k-th HITS; d -20 to 20");
        StepsByHand x = hits("", row(100, 200), row(110, 195));
        for (int d = -20; d <= 20; d++) EDGE.due("miss(" + d + ")", x.miss(d), Math.abs(-10 - d) + Math.abs(5 - d));
        StepsByHand far = hits("", row(0, 1, 2, 3, 4, 5, 6, 7, 8, 9, 10, 11), row(488, 489, 490, 491, 492, 493, 494, 495, 496, 497, 498, 499));
        EDGE.due("12 HITS as far as may be: miss(20)", far.miss(20), 12 * 508);
        EDGE.due("12 HITS as far as may be: miss(-20)", far.miss(-20), 12 * 468);
        StepsByHand other = hits("", row(499), row(0));
        EDGE.due("the other way: miss(-20)", other.miss(-20), 519);
        EDGE.due("the other way: miss(20)", other.miss(20), 479);
        EDGE.due("none missed", hits("", row(7), row(7)).miss(0), 0);
    }

    private static void missRefused() {
        EDGE.words(17, "BAD: d below -20, above 20");
        EDGE.from(Room::some);
        EDGE.outside("miss(#)", -20, 20, BAD, (x, v) -> x.miss(v));
        EDGE.words(17, "the first that fits: BAD ahead of STATE");
        EDGE.from(StepsByHand::new);
        EDGE.outside("miss(#) of none", -20, 20, BAD, (x, v) -> x.miss(v));
    }

    /** Asks all four questions, which are refused likewise. */
    private static void stateOf(String which, Supplier<StepsByHand> maker) {
        EDGE.from(maker);
        EDGE.words(17, "STATE: there are not as many of both, or none");
        for (int d = -20; d <= 20; d += 20) {
            int moved = d;
            EDGE.refused("miss(" + d + ") of " + which, STATE, x -> x.miss(moved));
        }
        EDGE.words(18, "STATE -1002 likewise");
        EDGE.refused("slip(0) of " + which, -1002, x -> x.slip(0));
        EDGE.refused("slip(1) of " + which, -1002, x -> x.slip(1));
        EDGE.words(19, "STATE likewise");
        for (int c = 0; c <= 3; c++) {
            int most = c;
            EDGE.refused("cuts(" + c + ") of " + which, STATE, x -> x.cuts(most));
        }
        EDGE.words(20, "STATE likewise");
        EDGE.refused("enough(0) of " + which, STATE, x -> x.enough(0));
        EDGE.refused("enough(999) of " + which, STATE, x -> x.enough(999));
    }

    private static void notAsManyOfBoth() {
        stateOf("none", StepsByHand::new);
        stateOf("1 and 0", () -> hits("", row(5), row()));
        stateOf("0 and 1", () -> hits("", row(), row(5)));
        stateOf("2 and 1", () -> hits("", row(5, 6), row(5)));
        stateOf("1 and 2", () -> hits("", row(5), row(5, 6)));
        stateOf("12 and 11", () -> hits("", row(0, 1, 2, 3, 4, 5, 6, 7, 8, 9, 10, 11), row(0, 1, 2, 3, 4, 5, 6, 7, 8, 9, 10)));
        stateOf("none any more", () -> {
            StepsByHand x = Room.full();
            x.wipe();
            return x;
        });
        EDGE.words(17, "as many of both");
        EDGE.due("1 and 1", hits("", row(5), row(6)).miss(0), 1);
        EDGE.due("12 and 12", Room.full().miss(0), 66);
    }

    private static void slipsToTheFarthest() {
        EDGE.words(18, "The d with the least miss: -20 to 20");
        int[] away = {-21, -20, -19, -1, 0, 1, 19, 20, 21, -200, 200};
        for (int d : away) {
            StepsByHand x = hits("", row(250 + d, 260 + d), row(250, 260));
            int best = Math.max(-20, Math.min(20, d));
            EDGE.due("slip(0), away by " + d, x.slip(0), best);
            EDGE.due("slip(1), away by " + d, x.slip(1), 2 * Math.abs(d - best));
        }
        EDGE.due("0 to 499: slip(1)", hits("", row(499), row(0)).slip(1), 479);
        EDGE.due("499 to 0: slip(0)", hits("", row(0), row(499)).slip(0), -20);
    }

    private static void slipsOfSeveral() {
        EDGE.words(18, "of several the least without sign, then that below 0");
        int[][] wants = {{-4, 4, 0}, {-4, -2, -2}, {2, 4, 2}, {-9, 0, 0}, {0, 9, 0}, {-20, 20, 0}, {-30, -25, -20}, {25, 30, 20}, {-30, 30, 0}, {-1, 1, 0}};
        for (int[] want : wants) {
            StepsByHand x = hits("", row(100 + want[0], 200 + want[1]), row(100, 200));
            EDGE.due("away by " + want[0] + " and " + want[1] + ": slip(0)", x.slip(0), want[2]);
            EDGE.due("its miss", x.slip(1), Math.abs(want[0] - want[2]) + Math.abs(want[1] - want[2]));
        }
    }

    private static void slipRefused() {
        EDGE.words(18, "BAD -1000");
        EDGE.from(Room::some);
        EDGE.outside("slip(#)", 0, 1, -1000, (x, v) -> x.slip(v));
        EDGE.words(18, "the first that fits: BAD ahead of STATE");
        EDGE.from(StepsByHand::new);
        EDGE.outside("slip(#) of none", 0, 1, -1000, (x, v) -> x.slip(v));
    }

    private static void cutBehindTheTail() {
        EDGE.words(19, "a CUT may be behind a HIT, if the next one is more than tail FRAMES later");
        for (int tail = 1; tail <= 9; tail++) {
            String text = "tail " + tail + ";";
            // The later part goes a frame away from the earlier one, so that only the place of the cut can forbid it.
            StepsByHand atTail = hits(text, row(100, 101 + tail), row(100, 100 + tail));
            EDGE.due("next tail " + tail + " later: cuts(1)", atTail.cuts(1), 1);
            EDGE.due("next tail " + tail + " later: cuts(3)", atTail.cuts(3), 1);
            StepsByHand more = hits(text, row(100, 102 + tail), row(100, 101 + tail));
            EDGE.due("next more than tail " + tail + " later: cuts(1)", more.cuts(1), 0);
            EDGE.due("next more than tail " + tail + " later: cuts(0)", more.cuts(0), 1);
        }
        StepsByHand atFirst = hits("", row(100, 102), row(100, 101));
        EDGE.due("tail (1) at first, next 1 later", atFirst.cuts(3), 1);
        EDGE.due("tail (1) at first, next 2 later", hits("", row(100, 103), row(100, 102)).cuts(3), 0);
        StepsByHand told = hits("tail 9;", row(100, 106), row(100, 105));
        EDGE.due("tail 9, next 5 later", told.cuts(1), 1);
        Checks.tell(told, "tail 4;");
        EDGE.due("tail 4 told then", told.cuts(1), 0);
        Checks.tell(told, "tail 5;");
        EDGE.due("tail 5 told then", told.cuts(1), 1);
    }

    private static void partsBehindTheTail() {
        EDGE.words(19, "a part that is moved must begin more than tail FRAMES behind the last HIT of the part ahead, as moved");
        for (int tail = 1; tail <= 9; tail++) {
            String text = "tail " + tail + ";";
            // The picture's hits are tail frames apart: one frame must be missed.
            EDGE.due("to tail " + tail + ": the later one is moved", hits(text, row(100, 100 + tail), row(100, 115)).cuts(1), 1);
            EDGE.due("to tail " + tail + ": the earlier one is moved", hits(text, row(100, 100 + tail), row(85, 100 + tail)).cuts(1), 1);
            EDGE.due("to tail " + tail + ": both are moved", hits(text, row(100, 100 + tail), row(90, 110 + tail)).cuts(1), 1);
            EDGE.due("more than tail " + tail + ": the later one is moved", hits(text, row(100, 101 + tail), row(100, 115)).cuts(1), 0);
            EDGE.due("more than tail " + tail + ": the earlier one is moved", hits(text, row(100, 101 + tail), row(85, 101 + tail)).cuts(1), 0);
            EDGE.due("more than tail " + tail + ": both are moved", hits(text, row(100, 101 + tail), row(90, 111 + tail)).cuts(1), 0);
        }
        EDGE.words(19, "behind the last HIT of the part ahead: of the part that is ahead by itself, too");
        StepsByHand x = hits("tail 2;", row(10, 12, 14), row(0, 12, 24));
        // Three parts, each two frames from the next, want a frame more between each.
        EDGE.due("three parts: cuts(2)", x.cuts(2), 2);
        StepsByHand one = hits("tail 2;", row(10, 13, 16), row(0, 12, 24));
        EDGE.due("three parts with room: cuts(2)", one.cuts(2), 0);
    }

    private static void partsBySingleMoves() {
        EDGE.words(19, "each moved by its own d (-20 to 20)");
        EDGE.due("by 20 and -20", hits("", row(120, 180), row(100, 200)).cuts(1), 0);
        EDGE.due("by 21 and -21 wanted", hits("", row(121, 179), row(100, 200)).cuts(1), 2);
        EDGE.due("by -20 and 20", hits("", row(80, 220), row(100, 200)).cuts(1), 0);
        EDGE.due("by -21 and 21 wanted", hits("", row(79, 221), row(100, 200)).cuts(1), 2);
        EDGE.due("0 CUTS: both by one", hits("", row(120, 180), row(100, 200)).cuts(0), 40);
        EDGE.due("one HIT alone", hits("", row(100), row(120)).cuts(0), 0);
        EDGE.due("one HIT alone, 3 CUTS", hits("", row(100), row(121)).cuts(3), 1);
        EDGE.due("as far as may be: cuts(3)", hits("", row(0, 1), row(498, 499)).cuts(3), 2 * 478);
    }

    private static void cutsAtMost() {
        EDGE.words(19, "LEAST miss with c CUTS at most (0 to 3)");
        StepsByHand x = hits("", row(10, 31, 52, 73, 94), row(10, 30, 50, 70, 90));
        int[] least = {6, 3, 2, 1};
        for (int c = 0; c <= 3; c++) EDGE.due("five parts wanted: cuts(" + c + ")", x.cuts(c), least[c]);
        StepsByHand none = hits("", row(10, 30), row(10, 30));
        for (int c = 0; c <= 3; c++) EDGE.due("none wanted: cuts(" + c + ")", none.cuts(c), 0);
        int[] picture = new int[12];
        int[] take = new int[12];
        for (int k = 0; k < 12; k++) {
            take[k] = 40 * k;
            picture[k] = 40 * k + 5 * (k / 3);
        }
        StepsByHand four = hits("tail 9;", picture, take);
        int[] ofFour = {60, 30, 15, 0};
        for (int c = 0; c <= 3; c++) EDGE.due("four parts of three HITS: cuts(" + c + ")", four.cuts(c), ofFour[c]);
    }

    private static void cutsRefused() {
        EDGE.words(19, "BAD: c below 0, above 3");
        EDGE.from(Room::some);
        EDGE.outside("cuts(#)", 0, 3, BAD, (x, v) -> x.cuts(v));
        EDGE.words(19, "the first that fits: BAD ahead of STATE");
        EDGE.from(StepsByHand::new);
        EDGE.outside("cuts(#) of none", 0, 3, BAD, (x, v) -> x.cuts(v));
    }

    private static void enoughExactly() {
        EDGE.words(20, "The fewest CUTS (0 to 3) by which the miss is m at most (0 to 999)");
        StepsByHand x = hits("", row(10, 31, 52, 73), row(10, 30, 50, 70));
        int[] least = {4, 2, 1, 0};
        for (int c = 0; c <= 3; c++) EDGE.due("cuts(" + c + ")", x.cuts(c), least[c]);
        int[] due = {3, 2, 1, 1, 0, 0};
        for (int m = 0; m < 6; m++) EDGE.due("enough(" + m + ")", x.enough(m), due[m]);
        EDGE.due("enough(999)", x.enough(999), 0);
        EDGE.due("none missed: enough(0)", hits("", row(7), row(7)).enough(0), 0);
        EDGE.words(20, "NONE: not by 3");
        StepsByHand five = hits("", row(10, 31, 52, 73, 94), row(10, 30, 50, 70, 90));
        EDGE.due("five parts wanted: enough(0)", five.enough(0), NONE);
        EDGE.due("five parts wanted: enough(1)", five.enough(1), 3);
        StepsByHand far = hits("", row(0, 1, 2), row(497, 498, 499));
        EDGE.due("far: cuts(3)", far.cuts(3), 1431);
        EDGE.due("far: enough(999)", far.enough(999), NONE);
        StepsByHand near = hits("", row(0, 1, 2), row(353, 354, 355));
        EDGE.due("a miss of 999: cuts(0)", near.cuts(0), 999);
        EDGE.due("a miss of 999: enough(999)", near.enough(999), 0);
        EDGE.due("a miss of 999: enough(998)", near.enough(998), NONE);
    }

    private static void enoughRefused() {
        EDGE.words(20, "BAD: m below 0, above 999");
        EDGE.from(Room::some);
        EDGE.outside("enough(#)", 0, 999, BAD, (x, v) -> x.enough(v));
        EDGE.words(20, "the first that fits: BAD ahead of STATE");
        EDGE.from(StepsByHand::new);
        EDGE.outside("enough(#) of none", 0, 999, BAD, (x, v) -> x.enough(v));
    }
}
