/** Promises 1 to 9: a new object, THE TAPE, the text with its faults, what it tells. */
public final class TextTest {
    private static final Checks CHECK = new Checks("TextTest");

    public static void main(String[] args) {
        newObject();
        tapeIsFed();
        tapeIsCut();
        textTells();
        textReplaces();
        blanksAndTokens();
        faultsOfTokens();
        faultsOfPlace();
        faultsOfBounds();
        faultsOfSecondTelling();
        faultsOfTooMany();
        refusedTextLeavesAll();
        questions();
        shifts();
        CHECK.finish();
    }

    private static void newObject() {
        StepsByHand x = new StepsByHand();
        for (int what = 0; what <= 8; what++) CHECK.due("count of a new object " + what, x.count(what), 0);
        CHECK.due("count(9) of a new object", x.count(9), StepsByHand.NONE);
        int[] rules = {2, 2, 1, 99};
        for (int what = 0; what < 4; what++) CHECK.due("rule " + what + " at first", x.rule(what), rules[what]);
        CHECK.due("fault at first", x.fault(), 0);
        CHECK.due("torn at first", x.torn(), 0);
        for (int k = 0; k < 4; k++) CHECK.due("lay on nothing " + k, x.lay(k, 0, 1), -11);
        CHECK.due("masked at first", x.masked(), 0);
        CHECK.due("prop(0, 0) at first", x.prop(0, 0), -1);
        CHECK.due("cue(0, 0) at first", x.cue(0, 0), -1);
    }

    private static void tapeIsFed() {
        StepsByHand x = new StepsByHand();
        for (int i = 1; i <= 50; i++) CHECK.due("feed " + i, x.feed(0x2020202020202020L), 8 * i);
        CHECK.due("feed above 400", x.feed(0), -3);
        CHECK.due("refused feed changes nothing", x.count(8), 400);
        CHECK.due("end(393)", x.end(393), 400);
        CHECK.due("feed of 8 behind 393", x.feed(0), -3);
        CHECK.due("end(392)", x.end(392), 393);
        CHECK.due("feed of 8 behind 392", x.feed(0x2020202020202020L), 400);
        CHECK.due("a tape of blanks", x.text(), 0);
        CHECK.due("empty then", x.count(8), 0);
        // Of the eight bytes "prop 1; " the highest is the first on THE TAPE.
        CHECK.due("feed(prop 1; )", x.feed(0x70726f7020313b20L), 8);
        CHECK.due("highest byte first", x.text(), 1);
        CHECK.due("its tray", x.prop(0, 0), 1);
    }

    private static void tapeIsCut() {
        StepsByHand x = new StepsByHand();
        CHECK.due("end(0) of an empty tape", x.end(0), 0);
        CHECK.due("end(1) of an empty tape", x.end(1), -1);
        x.feed(0);
        CHECK.due("end(9) of 8", x.end(9), -1);
        CHECK.due("end(-1)", x.end(-1), -1);
        CHECK.due("refused end changes nothing", x.count(8), 8);
        CHECK.due("end(8) of 8", x.end(8), 8);
        CHECK.due("end(3) of 8", x.end(3), 8);
        CHECK.due("end(3) of 3", x.end(3), 3);
        CHECK.due("end(MIN)", x.end(Integer.MIN_VALUE), -1);
        CHECK.due("end(MAX)", x.end(Integer.MAX_VALUE), -1);
    }

    private static void textTells() {
        StepsByHand x = new StepsByHand();
        String text = "prop 5; prop 0; prop 3; stands 1 0; stands 2 1; cue 499 1 2 9 talk; cue 0 60 0 1;"
            + " walkers 3; move 0; tail 9; most 1; speech 0 500 9; speech 499 1 1;";
        CHECK.due("text", Checks.tell(x, text), 13);
        CHECK.due("its fault", x.fault(), 0);
        int[] counts = {3, 2, 2};
        for (int what = 0; what < 3; what++) CHECK.due("count " + what, x.count(what), counts[what]);
        int[] trays = {5, 0, 3};
        int[] stands = {1, 3, 7};
        for (int p = 0; p < 3; p++) {
            CHECK.due("tray of " + p, x.prop(p, 0), trays[p]);
            CHECK.due("stands of " + p, x.prop(p, 1), stands[p]);
        }
        int[][] cues = {{499, 1, 2, 9, 1}, {0, 60, 0, 1, 0}};
        for (int c = 0; c < 2; c++) {
            for (int what = 0; what < 5; what++) CHECK.due("cue " + c + " " + what, x.cue(c, what), cues[c][what]);
        }
        int[] rules = {3, 0, 9, 1};
        for (int what = 0; what < 4; what++) CHECK.due("rule " + what, x.rule(what), rules[what]);
        StepsByHand ring = Checks.told("prop 0;prop 1;prop 2;prop 3;stands 0 1;stands 1 2;stands 2 0;");
        for (int p = 0; p < 3; p++) CHECK.due("stands in a ring", ring.prop(p, 1), 7);
        CHECK.due("stands outside the ring", ring.prop(3, 1), 8);
    }

    private static void textReplaces() {
        StepsByHand x = Checks.told("prop 1;prop 2;stands 0 1;cue 3 4 0 5 talk;walkers 3;move 7;tail 8;most 6;speech 1 2 3;");
        x.hit(0, 1);
        x.hit(1, 2);
        x.piece(0, 9);
        x.entry(0, 1, 1);
        x.entry(1, 1, 1);
        x.sheet(0, 2, 7);
        CHECK.due("an empty text is taken", x.text(), 0);
        int[] counts = {0, 0, 0, 1, 1, 1, 1, 1, 0, 7};
        for (int what = 0; what < 10; what++) CHECK.due("behind an empty text: count " + what, x.count(what), counts[what]);
        int[] rules = {2, 2, 1, 99};
        for (int what = 0; what < 4; what++) CHECK.due("behind an empty text: rule " + what, x.rule(what), rules[what]);
        CHECK.due("props told anew", Checks.tell(x, "prop 4;prop 4;"), 2);
        CHECK.due("stands are not those of before", x.prop(0, 1), 1);
        CHECK.due("cues told anew", Checks.tell(x, "prop 4;cue 3 4 0 5;"), 2);
        CHECK.due("not on the TALK track as before", x.cue(0, 4), 0);
        Checks.tell(x, "prop 0;prop 1;stands 0 1;");
        CHECK.due("stands of those two in a new text", Checks.tell(x, "prop 0;prop 1;stands 0 1;"), 3);
        CHECK.due("speech is gone", x.speech(1), 0);
    }

    private static void blanksAndTokens() {
        StepsByHand x = new StepsByHand();
        CHECK.due("no blanks where none is needed", Checks.tell(x, "prop3;cue0 1 0 9talk;walkers1;"), 3);
        CHECK.due("tray", x.prop(0, 0), 3);
        CHECK.due("talk", x.cue(0, 4), 1);
        CHECK.due("many blanks", Checks.tell(x, "   prop   3   ;   cue  0  1  0  9  talk  ;  "), 2);
        CHECK.due("figures ahead of a number", Checks.tell(x, "prop 003;cue 000 01 00 009;"), 2);
        CHECK.due("tray of 003", x.prop(0, 0), 3);
        CHECK.due("names together are one", Checks.tell(x, "propprop 1;"), -10);
        CHECK.due("its fault", x.fault(), 2);
        CHECK.due("numbers together are one", Checks.tell(x, "prop 1;cue 1 101;"), -23);
        CHECK.due("its fault", x.fault(), 3);
    }

    private static void refused(String text, int fault, int place) {
        StepsByHand x = new StepsByHand();
        CHECK.due("text of \"" + text + "\"", Checks.tell(x, text), -10 - place);
        CHECK.due("fault of \"" + text + "\"", x.fault(), fault);
        CHECK.due("tape behind \"" + text + "\"", x.count(8), 0);
    }

    private static void faultsOfTokens() {
        refused(".", 1, 0);
        refused("  P", 1, 2);
        refused("prop 1.", 1, 6);
        refused("prop 1,", 1, 6);
        refused("prop -1;", 1, 5);
        refused("prop\t1;", 1, 4);
        refused("prop 1;\n", 1, 7);
        refused("prop " + (char) 0xe9, 1, 5);
        refused("prop " + (char) 0, 1, 5);
        refused("prop 0001;", 1, 5);
        refused("prop 1000;", 1, 5);
        refused("1234", 1, 0);
        refused("prop `;", 1, 5);
        refused("prop {;", 1, 5);
        refused("prop /;", 1, 5);
        refused("prop :;", 1, 5);
        refused("proP 1;", 2, 0);
        // A token is read when the one before has been taken: the bound is met ahead of the sign behind it.
        refused("prop 6.", 3, 5);
        refused("walk .", 2, 0);
    }

    private static void faultsOfPlace() {
        refused("1;", 2, 0);
        refused(";", 2, 0);
        refused("talk;", 2, 0);
        refused("walker 1;", 2, 0);
        refused("props 1;", 2, 0);
        refused("pro 1;", 2, 0);
        refused("prop;", 2, 4);
        refused("prop prop", 2, 5);
        refused("prop 1 1;", 2, 7);
        refused("prop 1;;", 2, 7);
        refused("prop 1 talk;", 2, 7);
        refused("prop", 2, 4);
        refused("prop   ", 2, 7);
        refused("prop 1", 2, 6);
        refused("prop 1;cue 1 1 0 1", 2, 18);
        refused("prop 1;cue 1 1 0 1 talk", 2, 23);
        refused("prop 1;cue 1 1 0 1 talk  ", 2, 25);
        refused("prop 1;cue 1 1 0 1 talks;", 2, 19);
        refused("prop 1;cue 1 1 0 1 tal;", 2, 19);
        refused("prop 1;cue 1 1 0 1 1;", 2, 19);
        refused("prop 1;cue 1 1 0 1 talk talk;", 2, 24);
        refused("prop 1;cue 1 1 0 talk;", 2, 17);
        refused("speech 1 1 1 talk;", 2, 13);
        refused("prop 1;prop 2;stands 0;", 2, 22);
        refused("move;", 2, 4);
    }

    private static void faultsOfBounds() {
        refused("prop 6;", 3, 5);
        refused("prop 999;", 3, 5);
        refused("stands 0 1;", 3, 7);
        refused("prop 0;stands 0 1;", 3, 16);
        refused("prop 0;stands 1 0;", 3, 14);
        refused("prop 0;stands 0 0;", 3, 16);
        refused("cue 1 1 0 1;", 3, 8);
        refused("prop 0;cue 500 1 0 1;", 3, 11);
        refused("prop 0;cue 1 0 0 1;", 3, 13);
        refused("prop 0;cue 1 61 0 1;", 3, 13);
        refused("prop 0;cue 441 60 0 1;", 3, 15);
        refused("prop 0;cue 1 1 1 1;", 3, 15);
        refused("prop 0;cue 1 1 0 0;", 3, 17);
        refused("prop 0;cue 1 1 0 10;", 3, 17);
        refused("walkers 0;", 3, 8);
        refused("walkers 4;", 3, 8);
        refused("move 10;", 3, 5);
        refused("tail 0;", 3, 5);
        refused("tail 10;", 3, 5);
        refused("most 0;", 3, 5);
        refused("most 100;", 3, 5);
        refused("speech 500 1 1;", 3, 7);
        refused("speech 0 0 1;", 3, 9);
        refused("speech 0 501 1;", 3, 9);
        refused("speech 1 500 1;", 3, 9);
        refused("speech 0 1 0;", 3, 11);
        refused("speech 0 1 10;", 3, 11);
        String edges = "prop 0;prop 5;cue 440 60 1 1;cue 499 1 0 9;walkers 1;move 9;tail 1;most 99;speech 0 500 1;speech 499 1 9;";
        CHECK.due("all at their bounds", Checks.tell(new StepsByHand(), edges), 10);
        CHECK.due("the other bounds", Checks.tell(new StepsByHand(), "walkers 3;move 0;tail 9;most 1;"), 4);
    }

    private static void faultsOfSecondTelling() {
        refused("walkers 1;walkers 2;", 4, 10);
        refused("move 1;tail 1;move 1;", 4, 14);
        refused("tail 1; tail", 4, 8);
        refused("most 1;most.", 4, 7);
        refused("prop 0;prop 0;stands 0 1;stands 0 1;", 4, 34);
        CHECK.due("the other way round is another", Checks.tell(new StepsByHand(), "prop 0;prop 0;stands 0 1;stands 1 0;"), 4);
        String chain = "prop 0;prop 0;prop 0;stands 0 1;stands 1 2;stands 0 2;";
        CHECK.due("by way of another is not told yet", Checks.tell(new StepsByHand(), chain), 6);
    }

    private static void faultsOfTooMany() {
        String props = "prop 0;".repeat(8);
        refused(props + "prop", 5, 56);
        refused(props + " prop 0;", 5, 57);
        CHECK.due("8 props", Checks.tell(new StepsByHand(), props), 8);
        String cues = "prop 0;" + "cue 1 1 0 1;".repeat(16);
        refused(cues + "cue.", 5, 199);
        CHECK.due("16 cues", Checks.tell(new StepsByHand(), cues), 17);
        String spans = "speech 1 1 1;".repeat(8);
        refused(spans + "speech", 5, 104);
        CHECK.due("8 spans", Checks.tell(new StepsByHand(), spans), 8);
    }

    private static void refusedTextLeavesAll() {
        StepsByHand x = Checks.told("prop 1;prop 2;stands 0 1;cue 3 4 0 5 talk;walkers 3;move 7;tail 8;most 6;speech 1 2 3;");
        CHECK.due("refused at its end", Checks.tell(x, "prop 0;cue 0 9 0 9;walkers 1;move 1;tail 1;most 1;speech 0 9 9;."), -73);
        CHECK.due("its fault", x.fault(), 1);
        CHECK.due("props stay", x.count(0), 2);
        CHECK.due("stands stay", x.prop(0, 1), 3);
        int[] cue = {3, 4, 0, 5, 1};
        for (int what = 0; what < 5; what++) CHECK.due("the cue stays " + what, x.cue(0, what), cue[what]);
        int[] rules = {3, 7, 8, 6};
        for (int what = 0; what < 4; what++) CHECK.due("rules stay " + what, x.rule(what), rules[what]);
        CHECK.due("speech stays", x.speech(2), 3);
        CHECK.due("a feed leaves the fault", x.feed(0x2020202020202020L), 8);
        CHECK.due("still", x.fault(), 1);
        CHECK.due("a text that is taken", x.text(), 0);
        CHECK.due("no fault then", x.fault(), 0);
    }

    private static void questions() {
        StepsByHand x = Checks.told("prop 1;prop 2;cue 3 4 0 5;");
        CHECK.due("prop(2, 0)", x.prop(2, 0), -1);
        CHECK.due("prop(-1, 0)", x.prop(-1, 0), -1);
        CHECK.due("prop(0, 2)", x.prop(0, 2), -1);
        CHECK.due("prop(0, -1)", x.prop(0, -1), -1);
        CHECK.due("prop(1, 1)", x.prop(1, 1), 2);
        CHECK.due("cue(1, 0)", x.cue(1, 0), -1);
        CHECK.due("cue(-1, 0)", x.cue(-1, 0), -1);
        CHECK.due("cue(0, 5)", x.cue(0, 5), -1);
        CHECK.due("cue(0, -1)", x.cue(0, -1), -1);
        CHECK.due("rule(4)", x.rule(4), -1);
        CHECK.due("rule(-1)", x.rule(-1), -1);
    }

    private static void shifts() {
        StepsByHand x = Checks.told("prop 1;cue 3 4 0 5;cue 0 60 0 1;");
        CHECK.due("shift(0, 496)", x.shift(0, 496), 3);
        CHECK.due("shift(0, 497)", x.shift(0, 497), -1);
        CHECK.due("shift(0, 500)", x.shift(0, 500), -1);
        CHECK.due("shift(0, -1)", x.shift(0, -1), -1);
        CHECK.due("shift(0, MAX)", x.shift(0, Integer.MAX_VALUE), -1);
        CHECK.due("shift(2, 0)", x.shift(2, 0), -1);
        CHECK.due("shift(-1, 0)", x.shift(-1, 0), -1);
        CHECK.due("where it is", x.cue(0, 0), 496);
        CHECK.due("shift(1, 440)", x.shift(1, 440), 0);
        CHECK.due("shift(1, 0)", x.shift(1, 0), 440);
        CHECK.due("shift(0, 0)", x.shift(0, 0), 496);
    }
}
