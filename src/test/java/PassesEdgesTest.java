/** The edges of promises 10 to 14: behind, beside, passes, plan, does. */
public final class PassesEdgesTest {
    private static final Edges EDGE = new Edges("PassesEdgesTest");
    private static final int BAD = Room.BAD;

    public static void main(String[] args) {
        behindAtTheEnd();
        behindOnAnotherTray();
        behindRefused();
        besideByOneFrame();
        besideRefused();
        noneAndNine();
        passesRefused();
        boundRoundedUp();
        boundByTrays();
        goingThere();
        planByFramesAndNumbers();
        planLooksAhead();
        planRefused();
        doesOfAll();
        doesRefused();
        questionsLeaveThePlan();
        EDGE.finish(10, 14);
    }

    private static void behindAtTheEnd() {
        EDGE.words(10, "the later one begins at the end of the earlier one, or later");
        StepsByHand x = Checks.told("prop 3;prop 3;move 9;cue 10 5 0 1;cue 14 1 0 1;cue 15 1 0 1;cue 15 1 1 1;cue 16 1 0 1;cue 499 1 0 1;cue 0 10 0 1;cue 0 11 0 1;");
        EDGE.due("a FRAME ahead of its end", x.behind(0, 1), 0);
        EDGE.due("at its end", x.behind(0, 2), 1);
        EDGE.due("at its end, with another PROP on that TRAY", x.behind(0, 3), 1);
        EDGE.due("a FRAME behind its end", x.behind(0, 4), 1);
        EDGE.due("at the last FRAME", x.behind(0, 5), 1);
        EDGE.due("the other way round", x.behind(2, 0), 0);
        EDGE.due("itself", x.behind(0, 0), 0);
        EDGE.due("from the first FRAME on, to its beginning", x.behind(6, 0), 1);
        EDGE.due("a FRAME longer", x.behind(7, 0), 0);
    }

    private static void behindOnAnotherTray() {
        EDGE.words(10, "on another TRAY move FRAMES later at least");
        for (int move = 0; move <= 9; move++) {
            StringBuilder text = new StringBuilder("prop 0;prop 5;move " + move + ";cue 0 5 0 1;");
            for (int gap = 0; gap <= 10; gap++) text.append("cue ").append(5 + gap).append(" 1 1 1;");
            StepsByHand x = Checks.told(text.toString());
            for (int gap = 0; gap <= 10; gap++) {
                EDGE.due("move " + move + ", " + gap + " later", x.behind(0, gap + 1), gap >= move ? 1 : 0);
            }
        }
    }

    private static void behindRefused() {
        EDGE.words(10, "BAD: there is no such CUE");
        EDGE.from(Room::some);
        EDGE.outside("behind(#, 0) of 6", 0, 5, BAD, (x, v) -> x.behind(v, 0));
        EDGE.outside("behind(0, #) of 6", 0, 5, BAD, (x, v) -> x.behind(0, v));
        EDGE.from(Room::full);
        EDGE.outside("behind(#, 15) of 16", 0, 15, BAD, (x, v) -> x.behind(v, 15));
        EDGE.outside("behind(15, #) of 16", 0, 15, BAD, (x, v) -> x.behind(15, v));
    }

    private static void besideByOneFrame() {
        EDGE.words(11, "beside one another, if there is a FRAME at which both sound");
        StepsByHand x = Checks.told("prop 0;prop 1;cue 10 5 0 1;cue 5 5 0 1;cue 5 6 0 1;cue 14 5 1 1;cue 15 5 1 1;cue 12 1 1 1;cue 0 60 1 1;cue 499 1 0 1;");
        int[] due = {4 + 8 + 32 + 64, 4 + 64, 1 + 2 + 64, 1 + 16 + 64, 8 + 64, 1 + 64, 63, 0};
        for (int c = 0; c < 8; c++) EDGE.due("beside(" + c + ")", x.beside(c), due[c]);
        EDGE.words(11, "CUES beside a CUE: itself is none");
        EDGE.due("alone", Checks.told("prop 0;cue 0 60 0 1;").beside(0), 0);
        StepsByHand full = Room.full();
        for (int c = 0; c < 16; c++) EDGE.due("16 at once, beside(" + c + ")", full.beside(c), Room.ALL_CUES & ~(1 << c));
        StepsByHand ends = Checks.told("prop 0;cue 0 1 0 1;cue 499 1 0 1;cue 498 2 0 1;cue 0 2 0 1;");
        EDGE.due("in the first FRAME", ends.beside(0), 8);
        EDGE.due("in the last FRAME", ends.beside(1), 4);
    }

    private static void besideRefused() {
        EDGE.words(11, "BAD: there is no such CUE");
        EDGE.from(Room::some);
        EDGE.outside("beside(#) of 6", 0, 5, BAD, (x, v) -> x.beside(v));
        EDGE.from(Room::full);
        EDGE.outside("beside(#) of 16", 0, 15, BAD, (x, v) -> x.beside(v));
    }

    private static void noneAndNine() {
        EDGE.words(12, "(None: 0.)");
        StepsByHand x = Room.full();
        for (int what = 0; what < 3; what++) EDGE.due("passes(0, " + what + ")", x.passes(0, what), 0);
        EDGE.words(12, "PASSES for a set of CUES (9 at most)");
        EDGE.due("one", x.passes(1 << 15, 0), 1);
        EDGE.due("8 on one TRAY", x.passes(255, 0), 8);
        EDGE.due("the first 9", x.passes(511, 0), 9);
        EDGE.due("the last 9", x.passes(511 << 7, 0), 9);
        EDGE.due("their bound", x.passes(511 << 7, 2), 9);
        EDGE.due("9 of every other", x.passes(0x5555 | 2, 0), 9);
    }

    private static void passesRefused() {
        EDGE.words(12, "BAD: also more than 9");
        EDGE.from(Room::full);
        for (int what = 0; what < 3; what++) {
            int asked = what;
            EDGE.refused("passes(1023, " + what + ")", BAD, x -> x.passes(1023, asked));
            EDGE.refused("passes(65535, " + what + ")", BAD, x -> x.passes(65535, asked));
            EDGE.refused("passes(1023 << 6, " + what + ")", BAD, x -> x.passes(1023 << 6, asked));
        }
        EDGE.words(12, "BAD: there is no such CUE");
        EDGE.refused("passes(65536, 0)", BAD, x -> x.passes(65536, 0));
        EDGE.refused("passes(65537, 0)", BAD, x -> x.passes(65537, 0));
        EDGE.refused("passes(1 << 30, 2)", BAD, x -> x.passes(1 << 30, 2));
        EDGE.from(Room::some);
        EDGE.outside("passes(#, 0) of 6", 0, 63, BAD, (x, v) -> x.passes(v, 0));
        EDGE.outside("passes(#, 2) of 6", 0, 63, BAD, (x, v) -> x.passes(v, 2));
        EDGE.words(12, "BAD: a number is not as told");
        EDGE.outside("passes(1, #)", 0, 2, BAD, (x, v) -> x.passes(1, v));
        EDGE.outside("passes(0, #)", 0, 2, BAD, (x, v) -> x.passes(0, v));
    }

    private static void boundRoundedUp() {
        EDGE.words(12, "BOUND: CUES that sound, by walkers, rounded up");
        for (int walkers = 1; walkers <= 3; walkers++) {
            StringBuilder text = new StringBuilder("walkers " + walkers + ";");
            for (int p = 0; p < 6; p++) text.append("prop ").append(p).append(';');
            for (int p = 0; p < 6; p++) text.append("cue ").append(9 - p).append(" 9 ").append(p).append(" 1;");
            StepsByHand x = Checks.told(text.toString());
            for (int n = 1; n <= 6; n++) {
                int due = (n + walkers - 1) / walkers;
                EDGE.due(n + " at once, " + walkers + " walkers", x.passes((1 << n) - 1, 2), due);
                EDGE.due(n + " at once are done so, " + walkers + " walkers", x.passes((1 << n) - 1, 0), due);
            }
        }
        StepsByHand apart = Checks.told("prop 0;prop 1;walkers 1;cue 0 5 0 1;cue 5 5 1 1;cue 4 1 1 1;");
        EDGE.due("one ends where the other begins", apart.passes(3, 2), 1);
        EDGE.due("and can not be done so: move", apart.passes(3, 0), 2);
        EDGE.due("in one FRAME at once", apart.passes(5, 2), 2);
    }

    private static void boundByTrays() {
        EDGE.words(12, "BOUND: over FRAMES and TRAYS of CUES that sound on one TRAY");
        StepsByHand x = Checks.told("prop 0;prop 0;prop 1;walkers 3;cue 0 5 0 1;cue 4 5 1 1;cue 5 5 0 1;cue 4 1 2 1;");
        EDGE.due("two PROPS on one TRAY at once", x.passes(3, 2), 2);
        EDGE.due("are never in the same PASS", x.passes(3, 0), 2);
        EDGE.due("one behind the other", x.passes(5, 2), 1);
        EDGE.due("on two TRAYS at once", x.passes(9, 2), 1);
        EDGE.due("the greatest of both", x.passes(11, 2), 2);
    }

    private static void goingThere() {
        EDGE.words(12, "GOING: how often a WALKER changes TRAYS from one CUE to the next in a PASS by THE PLAN");
        StepsByHand x = Checks.told("prop 0;prop 1;prop 0;walkers 1;move 2;cue 0 5 0 1;cue 7 5 1 1;cue 14 5 2 1;cue 19 5 0 1;cue 19 5 1 1;cue 30 1 1 1;");
        EDGE.due("one alone", x.passes(1, 1), 0);
        EDGE.due("there", x.passes(3, 1), 1);
        EDGE.due("there and back", x.passes(7, 1), 2);
        EDGE.due("to another PROP on the same TRAY", x.passes(12, 1), 0);
        EDGE.due("in another PASS", x.passes(24, 1), 0);
        EDGE.due("in both PASSES", x.passes(56, 0), 2);
        EDGE.due("from the first PASS on", x.passes(56, 1), 1);
        StepsByHand two = Checks.told("prop 0;prop 1;walkers 2;move 0;cue 0 5 0 1;cue 0 5 1 1;cue 5 5 0 1;cue 5 5 1 1;cue 10 1 1 1;");
        EDGE.due("each stays on his TRAY", two.passes(15, 1), 0);
        EDGE.due("the first goes", two.passes(31, 1), 1);
    }

    private static void planByFramesAndNumbers() {
        EDGE.words(13, "CUES by FRAMES at which they begin (of one FRAME by numbers)");
        StepsByHand x = Checks.told("prop 0;walkers 3;cue 5 5 0 1;cue 4 5 0 1;cue 5 5 0 1;cue 3 5 0 1;");
        int[] passes = {2, 1, 3, 0};
        for (int c = 0; c < 4; c++) {
            EDGE.due("PASS of " + c, x.plan(15, c, 0), passes[c]);
            EDGE.due("WALKER of " + c, x.plan(15, c, 1), 0);
        }
        EDGE.words(13, "each in the least PASS, by the least WALKER (PASS ahead of WALKER)");
        StepsByHand three = Checks.told("prop 0;prop 1;prop 2;prop 3;walkers 3;cue 0 5 0 1;cue 0 5 1 1;cue 0 5 2 1;cue 0 5 3 1;cue 9 1 3 1;");
        int[] pass = {0, 0, 0, 1, 0};
        int[] walker = {0, 1, 2, 0, 0};
        for (int c = 0; c < 5; c++) {
            EDGE.due("PASS of " + c, three.plan(31, c, 0), pass[c]);
            EDGE.due("WALKER of " + c, three.plan(31, c, 1), walker[c]);
        }
    }

    private static void planLooksAhead() {
        EDGE.words(13, "by which those behind it can still be done in so few");
        StepsByHand x = Checks.told("prop 0;prop 1;walkers 2;move 9;cue 0 5 0 1;cue 0 5 1 1;cue 5 5 1 1;cue 5 5 0 1;");
        EDGE.due("PASSES", x.passes(15, 0), 1);
        EDGE.due("the least WALKER can not come: WALKER of 2", x.plan(15, 2, 1), 1);
        EDGE.due("WALKER of 3", x.plan(15, 3, 1), 0);
        StepsByHand free = Checks.told("prop 0;prop 1;walkers 2;move 1;cue 0 2 0 1;cue 0 4 1 1;cue 5 5 1 1;cue 4 1 1 1;");
        // Walker 0 is the least for cue 2, though walker 1 is there.
        EDGE.due("the least WALKER though he must go", free.plan(7, 2, 1), 0);
        StepsByHand kept = Checks.told("prop 0;prop 1;walkers 2;move 1;cue 0 3 0 1;cue 0 3 1 1;cue 4 5 1 1;cue 3 6 0 1;");
        EDGE.due("PASSES", kept.passes(15, 0), 1);
        EDGE.due("WALKER of 3", kept.plan(15, 3, 1), 0);
        EDGE.due("WALKER of 2", kept.plan(15, 2, 1), 1);
        StepsByHand later = Checks.told("prop 0;prop 1;prop 2;walkers 2;move 3;cue 0 2 0 1;cue 0 3 1 1;cue 5 4 2 1;cue 5 4 0 1;");
        // Walker 1 is free at 3 and can not be on tray 2 at 5; walker 0 can, but then cue 3 must be in another pass.
        EDGE.due("PASSES", later.passes(15, 0), 2);
        EDGE.due("PASS of 2", later.plan(15, 2, 0), 0);
        EDGE.due("PASS of 3", later.plan(15, 3, 0), 1);
    }

    private static void planRefused() {
        EDGE.words(13, "BAD: also not one of the set");
        EDGE.from(Room::some);
        EDGE.refused("plan(1, 1, 0)", BAD, x -> x.plan(1, 1, 0));
        EDGE.refused("plan(62, 0, 0)", BAD, x -> x.plan(62, 0, 0));
        EDGE.refused("plan(31, 5, 1)", BAD, x -> x.plan(31, 5, 1));
        EDGE.refused("plan(0, 0, 0)", BAD, x -> x.plan(0, 0, 0));
        EDGE.refused("plan(1, 32, 0): 32 is not 0", BAD, x -> x.plan(1, 32, 0));
        EDGE.refused("plan(1, -32, 0)", BAD, x -> x.plan(1, -32, 0));
        EDGE.outside("plan(63, #, 0) of 6", 0, 5, BAD, (x, v) -> x.plan(63, v, 0));
        EDGE.words(13, "BAD: a number is not as told");
        EDGE.outside("plan(1, 0, #)", 0, 1, BAD, (x, v) -> x.plan(1, 0, v));
        EDGE.outside("plan(#, 0, 0) of 6", 0, 63, BAD, (x, v) -> x.plan(v, 0, 0));
        EDGE.words(13, "BAD: more than 9");
        EDGE.from(Room::full);
        EDGE.refused("plan(1023, 0, 0)", BAD, x -> x.plan(1023, 0, 0));
        EDGE.refused("plan(65535, 15, 1)", BAD, x -> x.plan(65535, 15, 1));
        EDGE.refused("plan(65537, 0, 0)", BAD, x -> x.plan(65537, 0, 0));
        EDGE.outside("plan(511 << 7, #, 0) of 16", 7, 15, BAD, (x, v) -> x.plan(511 << 7, v, 0));
        EDGE.due("plan(511 << 7, 7, 0)", Room.full().plan(511 << 7, 7, 0), 0);
        EDGE.due("plan(511 << 7, 15, 0)", Room.full().plan(511 << 7, 15, 0), 8);
    }

    private static void doesOfAll() {
        EDGE.words(14, "CUES of a PASS of THE PLAN that a WALKER does (bits)");
        StepsByHand x = Room.full();
        for (int pass = 0; pass < 9; pass++) {
            EDGE.due("does(511 << 7, " + pass + ", 0)", x.does(511 << 7, pass, 0), 1 << (7 + pass));
            EDGE.due("does(511 << 7, " + pass + ", 1)", x.does(511 << 7, pass, 1), 0);
        }
        StepsByHand row = Checks.told("prop 0;walkers 1;" + "cue 0 1 0 1;cue 1 1 0 1;cue 2 1 0 1;cue 3 1 0 1;cue 4 1 0 1;cue 5 1 0 1;cue 6 1 0 1;cue 7 1 0 1;cue 8 1 0 1;");
        EDGE.due("9 one behind another", row.does(511, 0, 0), 511);
        EDGE.due("PASSES", row.passes(511, 0), 1);
        StringBuilder text = new StringBuilder("walkers 3;prop 0;prop 1;prop 2;");
        for (int c = 0; c < 9; c++) text.append("cue 0 1 ").append(c % 3).append(" 1;");
        StepsByHand nine = Checks.told(text.toString());
        for (int pass = 0; pass < 3; pass++) {
            for (int walker = 0; walker < 3; walker++) {
                EDGE.due("9 at once, does(511, " + pass + ", " + walker + ")", nine.does(511, pass, walker), 1 << (3 * pass + walker));
            }
        }
    }

    private static void doesRefused() {
        EDGE.words(14, "BAD: also a PASS that there is not");
        EDGE.from(Room::full);
        EDGE.outside("does(511, #, 0) of 9", 0, 8, BAD, (x, v) -> x.does(511, v, 0));
        EDGE.outside("does(1, #, 0) of 1", 0, 0, BAD, (x, v) -> x.does(1, v, 0));
        EDGE.refused("does(0, 0, 0) of none", BAD, x -> x.does(0, 0, 0));
        EDGE.words(14, "BAD: a number is not as told: walkers");
        for (int walkers = 1; walkers <= 3; walkers++) {
            String text = "prop 0;walkers " + walkers + ";cue 0 1 0 1;";
            int last = walkers - 1;
            EDGE.from(() -> Checks.told(text));
            EDGE.outside("does(1, 0, #) of " + walkers, 0, last, BAD, (x, v) -> x.does(1, 0, v));
            EDGE.due("does(1, 0, " + last + ")", Checks.told(text).does(1, 0, last), last == 0 ? 1 : 0);
        }
        EDGE.words(14, "BAD: more than 9, no such CUE");
        EDGE.from(Room::full);
        EDGE.refused("does(1023, 0, 0)", BAD, x -> x.does(1023, 0, 0));
        EDGE.refused("does(65537, 0, 0)", BAD, x -> x.does(65537, 0, 0));
        EDGE.from(Room::some);
        EDGE.outside("does(#, 0, 0) of 6", 0, 63, BAD, (x, v) -> x.does(v, 0, 0));
    }

    private static void questionsLeaveThePlan() {
        EDGE.words(13, "what is refused changes nothing: THE PLAN as before");
        StepsByHand x = Checks.told("prop 0;cue 0 5 0 1;cue 0 5 0 1;cue 5 5 0 1;");
        EDGE.due("plan(7, 1, 0)", x.plan(7, 1, 0), 1);
        EDGE.due("refused", x.plan(8, 1, 0), BAD);
        EDGE.due("another set", x.plan(6, 1, 0), 0);
        EDGE.due("plan(7, 1, 0) again", x.plan(7, 1, 0), 1);
        EDGE.due("shift refused", x.shift(1, 496), BAD);
        EDGE.due("plan(7, 1, 0) then", x.plan(7, 1, 0), 1);
        EDGE.due("shift", x.shift(1, 495), 0);
        EDGE.due("plan(7, 1, 0) of the shifted", x.plan(7, 1, 0), 0);
        EDGE.due("text refused", Checks.tell(x, "prop 0;cue 0 5 0 1;cue 0 5 0 1;cue 5 5 0 1."), -52);
        EDGE.due("plan(7, 1, 0) still", x.plan(7, 1, 0), 0);
        EDGE.due("text", Checks.tell(x, "prop 0;cue 0 5 0 1;cue 0 5 0 1;cue 0 5 0 1;"), 4);
        EDGE.due("plan(7, 2, 0) of the new text", x.plan(7, 2, 0), 2);
        EDGE.words(12, "PASSES for a set, whatever set was asked for ahead");
        StepsByHand y = Checks.told("prop 0;walkers 1;" + "cue 5 5 0 1;".repeat(9) + "cue 10 5 0 1;");
        int[] sets = {511, 1, 3, 1 << 8 | 1 << 9, 255, 0, 511, 1 << 9};
        int[] passes = {9, 1, 2, 1, 8, 0, 9, 1};
        for (int i = 0; i < sets.length; i++) EDGE.due("passes(" + sets[i] + ", 0)", y.passes(sets[i], 0), passes[i]);
    }
}
