/** As much of all as there may be, and then less of it: nothing of what was told before may be found. */
public final class FullTest {
    private static final Checks CHECK = new Checks("FullTest");
    private static final int ALL = 65535;
    private static final String FULL_TEXT = "prop5;".repeat(8) + "cue9 9 7 9talk;".repeat(16) + "speech9 1 8;".repeat(8);

    public static void main(String[] args) {
        StepsByHand x = new StepsByHand();
        CHECK.due("the full text", Checks.tell(x, FULL_TEXT), 32);
        askFull(x);
        CHECK.due("the full text again", Checks.tell(x, FULL_TEXT), 32);
        CHECK.due("one of each", Checks.tell(x, "prop0;cue5 5 0 1;"), 2);
        askOne(x);
        CHECK.finish();
    }

    private static void askFull(StepsByHand x) {
        CHECK.due("prop", x.prop(7, 1), 128);
        CHECK.due("behind", x.behind(15, 0), 0);
        CHECK.due("beside", x.beside(15), ALL >> 1);
        CHECK.due("passes", x.passes(ALL & ~127, 0), 9);
        CHECK.due("bound", x.passes(ALL & ~127, 2), 9);
        CHECK.due("going", x.passes(ALL & ~127, 1), 0);
        CHECK.due("plan", x.plan(ALL & ~127, 15, 0), 8);
        CHECK.due("does", x.does(ALL & ~127, 8, 0), 1 << 15);
        CHECK.due("speech", x.speech(9), 8);
        CHECK.due("heard", x.heard(15, 0), 9);
        CHECK.due("masked", x.masked(), 0);
        CHECK.due("level", x.level(ALL, 9, 0), 144);
        CHECK.due("clips", x.clips(ALL, 0), 11);
        CHECK.due("lower", x.lower(ALL), 3);
        CHECK.due("carry", x.carry(ALL, 1), 128);
        CHECK.due("without", x.without(ALL, 127), ALL);
        CHECK.due("foreign", x.foreign(255, 0), ALL);
        CHECK.due("foreign without", x.foreign(127, 1), ALL);
        for (int i = 0; i < 7; i++) x.piece(0, 9);
        CHECK.due("gone", x.anew(3), ALL);
        x.piece(0, 500);
        CHECK.due("the 8th piece", x.moved(15), 72);
        CHECK.due("all move", x.anew(1), ALL);
    }

    private static void askOne(StepsByHand x) {
        CHECK.due("stands alone", x.prop(0, 1), 1);
        CHECK.due("a second prop", x.prop(1, 0), -1);
        CHECK.due("none beside", x.beside(0), 0);
        CHECK.due("no second cue", x.cue(1, 0), -1);
        CHECK.due("one pass", x.passes(1, 0), 1);
        CHECK.due("no second cue in a set", x.passes(3, 0), -1);
        CHECK.due("no speech", x.speech(9), 0);
        CHECK.due("all heard", x.heard(0, 0), 5);
        CHECK.due("none masked", x.masked(), 0);
        CHECK.due("none wanted", x.foreign(1, 0), 0);
        CHECK.due("no second prop in a set", x.foreign(2, 0), -1);
        CHECK.due("one level", x.clips(1, 2), 1);
        CHECK.due("one to carry", x.carry(1, 1), 1);
        CHECK.due("one moves", x.anew(1), 1);
        CHECK.due("where", x.moved(0), 68);
    }
}
