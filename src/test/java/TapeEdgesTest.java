/** The edges of promises 1 to 3 and 5 to 9: a new object, THE TAPE, fault, prop, cue, rule, shift. */
public final class TapeEdgesTest {
    private static final Edges EDGE = new Edges("TapeEdgesTest");
    private static final int BAD = Room.BAD, STATE = Room.STATE, FULL = Room.FULL, NONE = Room.NONE;
    private static final long BLANKS = 0x2020202020202020L;

    public static void main(String[] args) {
        constants();
        nothingAtFirst();
        nothingToAskAtFirst();
        objectsShareNothing();
        theLastOfItsCalls();
        highestByteFirst();
        tapeOf400();
        endOfTheTape();
        latestFault();
        propsAsked();
        standsOfAll();
        cuesAsked();
        rulesAsked();
        shiftedToTheEdges();
        shiftRefused();
        // Promise 4 has a test of its own: FaultEdgesTest.
        EDGE.words(4, "THE TAPE (empty then)");
        EDGE.due("text() of nothing", new StepsByHand().text(), 0);
        EDGE.finish(1, 9);
    }

    private static void constants() {
        EDGE.words(1, "Answers: BAD -1, STATE -2, FULL -3, NONE -4");
        EDGE.due("BAD", StepsByHand.BAD, -1);
        EDGE.due("STATE", StepsByHand.STATE, -2);
        EDGE.due("FULL", StepsByHand.FULL, -3);
        EDGE.due("NONE", StepsByHand.NONE, -4);
    }

    private static void nothingAtFirst() {
        EDGE.words(1, "no PROPS, CUES, HITS, PIECES, entries");
        StepsByHand x = new StepsByHand();
        for (int what = 0; what <= 8; what++) EDGE.due("count(" + what + ")", x.count(what), 0);
        EDGE.due("wipe()", x.wipe(), 0);
        EDGE.due("whole()", x.whole(), 0);
        EDGE.due("tear()", x.tear(), 0);
        EDGE.words(1, "SHEETS of nothing");
        EDGE.due("count(9)", x.count(9), NONE);
        for (int k = 0; k < 4; k++) {
            EDGE.due("lay(" + k + ", 0, 0)", x.lay(k, 0, 0), -11);
            for (int lane = 0; lane < 3; lane++) {
                EDGE.due("read(" + k + ", " + lane + ", 0, 0)", x.read(k, lane, 0, 0), 0);
                EDGE.due("torn()", x.torn(), 0);
                EDGE.due("read(" + k + ", " + lane + ", 0, 1)", x.read(k, lane, 0, 1), 0);
                EDGE.due("torn()", x.torn(), 1);
            }
        }
        EDGE.words(1, "As told at first");
        int[] rules = {2, 2, 1, 99};
        for (int what = 0; what < 4; what++) EDGE.due("rule(" + what + ")", x.rule(what), rules[what]);
        EDGE.due("fault()", x.fault(), 0);
        EDGE.due("torn()", new StepsByHand().torn(), 0);
    }

    private static void nothingToAskAtFirst() {
        EDGE.words(1, "no PROPS, CUES: none to be asked for");
        StepsByHand x = new StepsByHand();
        EDGE.due("prop(0, 0)", x.prop(0, 0), BAD);
        EDGE.due("cue(0, 0)", x.cue(0, 0), BAD);
        EDGE.due("shift(0, 0)", x.shift(0, 0), BAD);
        EDGE.due("behind(0, 0)", x.behind(0, 0), BAD);
        EDGE.due("beside(0)", x.beside(0), BAD);
        EDGE.due("heard(0, 0)", x.heard(0, 0), BAD);
        EDGE.due("moved(0)", x.moved(0), BAD);
        for (int what = 0; what < 3; what++) EDGE.due("passes(0, " + what + ")", x.passes(0, what), 0);
        EDGE.due("passes(1, 0)", x.passes(1, 0), BAD);
        EDGE.due("plan(0, 0, 0)", x.plan(0, 0, 0), BAD);
        EDGE.due("does(0, 0, 0)", x.does(0, 0, 0), BAD);
        EDGE.due("miss(0)", x.miss(0), STATE);
        EDGE.due("slip(0)", x.slip(0), -1002);
        EDGE.due("cuts(0)", x.cuts(0), STATE);
        EDGE.due("enough(0)", x.enough(0), STATE);
        EDGE.due("speech(0)", x.speech(0), 0);
        EDGE.due("masked()", x.masked(), 0);
        EDGE.due("level(0, 0, 0)", x.level(0, 0, 0), 0);
        EDGE.due("level(1, 0, 0)", x.level(1, 0, 0), BAD);
        int[] clips = {0, NONE, 0, 0};
        for (int what = 0; what < 4; what++) EDGE.due("clips(0, " + what + ")", x.clips(0, what), clips[what]);
        EDGE.due("lower(0)", x.lower(0), 0);
        EDGE.due("carry(0, 0)", x.carry(0, 0), 0);
        EDGE.due("carry(0, 1)", x.carry(0, 1), 0);
        EDGE.due("without(0, 0)", x.without(0, 0), 0);
        EDGE.due("without(0, 1)", x.without(0, 1), BAD);
        EDGE.due("foreign(0, 0)", x.foreign(0, 0), 0);
        EDGE.due("foreign(0, 1)", x.foreign(0, 1), 0);
        EDGE.due("foreign(1, 0)", x.foreign(1, 0), BAD);
        for (int what = 0; what < 4; what++) EDGE.due("anew(" + what + ")", x.anew(what), 0);
        for (int what = 0; what < 3; what++) EDGE.due("joined(0, " + what + ")", x.joined(0, what), 0);
        EDGE.due("joined(0, 10)", x.joined(0, 10), BAD);
    }

    private static void objectsShareNothing() {
        EDGE.words(1, "a new object, whatever others there are");
        StepsByHand ahead = new StepsByHand();
        Room.full();
        StepsByHand behind = new StepsByHand();
        String difference = Room.difference(Room.answers(ahead), Room.answers(behind));
        EDGE.due("made ahead and made behind a full one: " + difference, difference.length(), 0);
        StepsByHand later = new StepsByHand();
        for (int what = 0; what <= 8; what++) EDGE.due("count(" + what + ") of a later one", later.count(what), 0);
        EDGE.due("count(9) of a later one", later.count(9), NONE);
        EDGE.due("rule(0) of a later one", later.rule(0), 2);
    }

    private static void theLastOfItsCalls() {
        EDGE.words(1, "An object is used for at most 512 calls");
        StepsByHand x = new StepsByHand();
        for (int call = 1; call <= 510; call++) x.feed(BLANKS);
        EDGE.due("the 511th call, end(0)", x.end(0), 400);
        EDGE.due("the 512th call, feed", x.feed(BLANKS), 8);
    }

    private static void highestByteFirst() {
        EDGE.words(2, "Eight bytes come behind THE TAPE, the highest first");
        for (int i = 0; i < 16; i++) {
            StepsByHand x = new StepsByHand();
            long spoilt = BLANKS | 0xffL << (56 - 8 * (i % 8));
            x.feed(i < 8 ? spoilt : BLANKS);
            EDGE.due("the second feed", x.feed(i < 8 ? BLANKS : spoilt), 16);
            EDGE.due("text() with no TOKEN at " + i, x.text(), -10 - i);
            EDGE.due("fault()", x.fault(), 1);
        }
        long[] far = {Long.MIN_VALUE, Long.MAX_VALUE, -1, 0, 1};
        for (long v : far) {
            StepsByHand x = new StepsByHand();
            EDGE.due("feed(" + v + ")", x.feed(v), 8);
            EDGE.due("text() of it", x.text(), -10);
            EDGE.due("fault() of it", x.fault(), 1);
        }
    }

    private static void tapeOf400() {
        EDGE.words(2, "FULL: more than 400");
        StepsByHand x = new StepsByHand();
        for (int i = 1; i <= 50; i++) EDGE.due("feed " + i, x.feed(BLANKS), 8 * i);
        EDGE.due("feed 51", x.feed(BLANKS), FULL);
        EDGE.due("end(399)", x.end(399), 400);
        EDGE.due("feed behind 399", x.feed(BLANKS), FULL);
        EDGE.due("end(393)", x.end(393), 399);
        EDGE.due("feed behind 393", x.feed(BLANKS), FULL);
        EDGE.due("count(8)", x.count(8), 393);
        EDGE.due("end(392)", x.end(392), 393);
        EDGE.due("feed behind 392", x.feed(BLANKS), 400);
        x.text();
        EDGE.due("feed behind a text", x.feed(BLANKS), 8);
        EDGE.from(Room::full);
        EDGE.refused("feed(..) on a full TAPE", FULL, y -> y.feed(Room.word("prop 0; ")));
        EDGE.from(() -> {
            StepsByHand y = Room.full();
            y.end(393);
            return y;
        });
        EDGE.refused("feed(..) behind 393", FULL, y -> y.feed(-1));
    }

    private static void endOfTheTape() {
        EDGE.words(3, "THE TAPE keeps its first n bytes: how many it had");
        StepsByHand x = new StepsByHand();
        EDGE.due("end(0) of none", x.end(0), 0);
        Room.put(x, "prop 1;;prop 2;;");
        EDGE.due("end(16) of 16", x.end(16), 16);
        EDGE.due("end(15) of 16", x.end(15), 16);
        EDGE.due("end(7) of 15", x.end(7), 15);
        Room.put(x, "prop 3; ");
        EDGE.due("what is fed comes behind the first n", x.text(), 2);
        EDGE.due("prop(1, 0)", x.prop(1, 0), 3);
        Room.put(x, "prop 1; ");
        EDGE.due("end(0) of 8", x.end(0), 8);
        EDGE.due("text() of none kept", x.text(), 0);
        EDGE.due("count(0)", x.count(0), 0);
        for (int i = 0; i < 50; i++) x.feed(BLANKS);
        EDGE.due("end(400) of 400", x.end(400), 400);
        EDGE.words(3, "BAD (n above that, too)");
        EDGE.from(Room::some);
        EDGE.outside("end(#) of 8", 0, 8, BAD, (y, v) -> y.end(v));
        EDGE.from(Room::full);
        EDGE.outside("end(#) of 400", 0, 400, BAD, (y, v) -> y.end(v));
        EDGE.from(StepsByHand::new);
        EDGE.outside("end(#) of none", 0, 0, BAD, (y, v) -> y.end(v));
    }

    private static void latestFault() {
        EDGE.words(5, "The FAULT of the latest text(); 0");
        StepsByHand x = new StepsByHand();
        EDGE.due("fault() ahead of any text", x.fault(), 0);
        String[] texts = {".", "x", "tail 0;", "tail 1;tail 1;", "prop 0;".repeat(9)};
        for (int i = 0; i < 5; i++) {
            Checks.tell(x, texts[i]);
            EDGE.due("fault() of " + texts[i], x.fault(), i + 1);
            EDGE.due("fault() asked again", x.fault(), i + 1);
        }
        for (int i = 0; i < 50; i++) x.feed(0);
        x.feed(0);
        x.end(401);
        EDGE.due("fault() behind refused calls", x.fault(), 5);
        x.end(0);
        EDGE.due("fault() behind bytes fed and gone", x.fault(), 5);
        EDGE.due("text() that is taken", x.text(), 0);
        EDGE.due("fault() of it", x.fault(), 0);
    }

    private static void propsAsked() {
        EDGE.words(6, "Of a PROP: 0 TRAY");
        for (int tray = 0; tray <= 5; tray++) EDGE.due("tray " + tray, Checks.told("prop " + tray + ";").prop(0, 0), tray);
        StepsByHand numbered = Checks.told("prop 5;prop 4;prop 3;prop 2;prop 1;prop 0;prop 5;prop 4;");
        for (int p = 0; p < 8; p++) EDGE.due("numbered as they come: prop(" + p + ", 0)", numbered.prop(p, 0), p < 6 ? 5 - p : 11 - p);
        EDGE.words(6, "BAD: there is no such PROP");
        EDGE.from(Room::some);
        EDGE.outside("prop(#, 0) of 3", 0, 2, BAD, (x, v) -> x.prop(v, 0));
        EDGE.outside("prop(#, 1) of 3", 0, 2, BAD, (x, v) -> x.prop(v, 1));
        EDGE.from(Room::full);
        EDGE.outside("prop(#, 0) of 8", 0, 7, BAD, (x, v) -> x.prop(v, 0));
        EDGE.words(6, "BAD: a number is not as told");
        EDGE.from(Room::some);
        EDGE.outside("prop(0, #)", 0, 1, BAD, (x, v) -> x.prop(0, v));
        EDGE.refused("prop(3, 2)", BAD, x -> x.prop(3, 2));
    }

    private static void standsOfAll() {
        EDGE.words(6, "1 those for which it may stand: itself, those it is told to, and so on");
        String props = "prop 0;".repeat(8);
        StepsByHand alone = Checks.told(props);
        for (int p = 0; p < 8; p++) EDGE.due("none told: prop(" + p + ", 1)", alone.prop(p, 1), 1 << p);
        StringBuilder up = new StringBuilder(props);
        StringBuilder down = new StringBuilder(props);
        for (int p = 0; p < 7; p++) {
            up.append("stands ").append(p).append(' ').append(p + 1).append(';');
            down.append("stands ").append(6 - p).append(' ').append(7 - p).append(';');
        }
        for (StringBuilder chain : new StringBuilder[] {up, down}) {
            StepsByHand x = Checks.told(chain.toString());
            for (int p = 0; p < 8; p++) EDGE.due("a chain of 8: prop(" + p + ", 1)", x.prop(p, 1), 255 >> p << p);
        }
        StepsByHand mixed = Checks.told(props + "stands 7 3;stands 3 5;stands 5 0;stands 0 6;stands 6 1;stands 1 4;stands 4 2;");
        EDGE.due("a chain out of order, its first", mixed.prop(7, 1), 255);
        EDGE.due("a chain out of order, its last", mixed.prop(2, 1), 4);
        EDGE.due("a chain out of order, its midst", mixed.prop(0, 1), 1 | 64 | 2 | 16 | 4);
        StepsByHand ring = Checks.told(up.append("stands 7 0;").toString());
        for (int p = 0; p < 8; p++) EDGE.due("a ring of 8: prop(" + p + ", 1)", ring.prop(p, 1), 255);
    }

    private static void cuesAsked() {
        EDGE.words(7, "Of a CUE: 0 FRAME, 1 how long, 2 PROP, 3 LOUD, 4 whether on the TALK track");
        StepsByHand x = Checks.told("prop 0;".repeat(8) + "cue 0 60 7 9 talk;cue 499 1 0 1;cue 440 60 0 9;");
        int[][] cues = {{0, 60, 7, 9, 1}, {499, 1, 0, 1, 0}, {440, 60, 0, 9, 0}};
        for (int c = 0; c < 3; c++) {
            for (int what = 0; what < 5; what++) EDGE.due("cue(" + c + ", " + what + ")", x.cue(c, what), cues[c][what]);
        }
        StringBuilder text = new StringBuilder("prop 0;");
        for (int c = 0; c < 16; c++) text.append("cue ").append(100 - c).append(" 1 0 1;");
        StepsByHand numbered = Checks.told(text.toString());
        for (int c = 0; c < 16; c++) EDGE.due("numbered as they come: cue(" + c + ", 0)", numbered.cue(c, 0), 100 - c);
        EDGE.words(7, "BAD: there is no such CUE");
        EDGE.from(Room::some);
        EDGE.outside("cue(#, 0) of 6", 0, 5, BAD, (y, v) -> y.cue(v, 0));
        EDGE.outside("cue(#, 4) of 6", 0, 5, BAD, (y, v) -> y.cue(v, 4));
        EDGE.from(Room::full);
        EDGE.outside("cue(#, 0) of 16", 0, 15, BAD, (y, v) -> y.cue(v, 0));
        EDGE.words(7, "BAD: a number is not as told");
        EDGE.from(Room::some);
        EDGE.outside("cue(0, #)", 0, 4, BAD, (y, v) -> y.cue(0, v));
    }

    private static void rulesAsked() {
        EDGE.words(8, "0 walkers, 1 move, 2 tail, 3 most");
        int[][] edges = {{1, 0, 1, 1}, {3, 9, 9, 99}};
        String[] texts = {"walkers 1;move 0;tail 1;most 1;", "walkers 3;move 9;tail 9;most 99;"};
        for (int i = 0; i < 2; i++) {
            StepsByHand x = Checks.told(texts[i]);
            for (int what = 0; what < 4; what++) EDGE.due(texts[i] + " rule(" + what + ")", x.rule(what), edges[i][what]);
        }
        EDGE.words(8, "(2), (2), (1), (99)");
        String[] single = {"walkers 3;", "move 7;", "tail 7;", "most 7;"};
        int[] told = {3, 7, 7, 7};
        int[] first = {2, 2, 1, 99};
        for (int i = 0; i < 4; i++) {
            StepsByHand x = Checks.told(single[i]);
            for (int what = 0; what < 4; what++) EDGE.due(single[i] + " rule(" + what + ")", x.rule(what), what == i ? told[what] : first[what]);
        }
        EDGE.words(8, "BAD");
        EDGE.from(Room::some);
        EDGE.outside("rule(#)", 0, 3, BAD, (x, v) -> x.rule(v));
    }

    private static void shiftedToTheEdges() {
        EDGE.words(9, "A CUE begins at FRAME f instead: where it did");
        StepsByHand x = Checks.told("prop 0;cue 7 1 0 1;cue 8 60 0 1;");
        EDGE.due("one FRAME long: shift(0, 499)", x.shift(0, 499), 7);
        EDGE.due("shift(0, 0)", x.shift(0, 0), 499);
        EDGE.due("to where it is: shift(0, 0)", x.shift(0, 0), 0);
        EDGE.due("60 FRAMES long: shift(1, 440)", x.shift(1, 440), 8);
        EDGE.due("cue(1, 0)", x.cue(1, 0), 440);
        EDGE.due("how long it is stays: cue(1, 1)", x.cue(1, 1), 60);
        EDGE.due("the other stays: cue(0, 0)", x.cue(0, 0), 0);
        EDGE.due("shift(1, 0)", x.shift(1, 0), 440);
        Checks.tell(x, "prop 0;cue 3 1 0 1;");
        EDGE.due("told anew: cue(0, 0)", x.cue(0, 0), 3);
    }

    private static void shiftRefused() {
        EDGE.words(9, "BAD (how long: beyond 499)");
        EDGE.from(Room::some);
        EDGE.outside("shift(0, #), 10 long", 0, 490, BAD, (x, v) -> x.shift(0, v));
        EDGE.outside("shift(2, #), 4 long", 0, 496, BAD, (x, v) -> x.shift(2, v));
        EDGE.refused("shift(0, 499), 10 long", BAD, x -> x.shift(0, 499));
        EDGE.refused("shift(0, 500)", BAD, x -> x.shift(0, 500));
        EDGE.from(() -> Checks.told("prop 0;cue 7 1 0 1;cue 8 60 0 1;"));
        EDGE.outside("shift(0, #), 1 long", 0, 499, BAD, (x, v) -> x.shift(0, v));
        EDGE.outside("shift(1, #), 60 long", 0, 440, BAD, (x, v) -> x.shift(1, v));
        EDGE.words(9, "BAD: there is no such CUE");
        EDGE.outside("shift(#, 0) of 2", 0, 1, BAD, (x, v) -> x.shift(v, 0));
        EDGE.from(Room::full);
        EDGE.outside("shift(#, 0) of 16", 0, 15, BAD, (x, v) -> x.shift(v, 0));
    }
}
