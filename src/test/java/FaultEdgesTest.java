import java.util.List;

/** The edges of promise 4: which text is taken, which FAULT is met where, and what stays then. */
public final class FaultEdgesTest {
    private static final Edges EDGE = new Edges("FaultEdgesTest");
    /** Two props, so that every form of a line may follow. */
    private static final String AHEAD = "prop 0;prop 0;";
    private static final String[] FORMS = {"prop 0 ;", "stands 0 1 ;", "cue 1 1 0 1 ;", "cue 1 1 0 1 talk ;", "walkers 1 ;",
        "move 1 ;", "tail 1 ;", "most 1 ;", "speech 1 1 1 ;"};

    public static void main(String[] args) {
        everyByte();
        wholeTape();
        bytesBehindTheEnd();
        tokensAsLongAsMayBe();
        blanks();
        numbersTooLong();
        namesThatBeginNoLine();
        for (String form : FORMS) everyPlaceOf(form);
        boundsOfSingleNumbers();
        boundsOfCues();
        boundsOfSpeech();
        boundsOfStands();
        forTheSecondTime();
        tooMany();
        firstMet();
        howManyLines();
        tellsAllInPlace();
        othersStay();
        whatIsNotToldIsAsAtFirst();
        refusedTextLeavesAll();
        EDGE.finish(4, 4);
    }

    private static void taken(String text, int lines) {
        StepsByHand x = new StepsByHand();
        EDGE.due("text() of \"" + text + "\"", Checks.tell(x, text), lines);
        EDGE.due("fault() of \"" + text + "\"", x.fault(), 0);
        EDGE.due("bytes left of \"" + text + "\"", x.count(8), 0);
    }

    private static void fails(String text, int fault, int place) {
        StepsByHand x = new StepsByHand();
        EDGE.due("text() of \"" + text + "\"", Checks.tell(x, text), -10 - place);
        EDGE.due("fault() of \"" + text + "\"", x.fault(), fault);
        EDGE.due("bytes left of \"" + text + "\"", x.count(8), 0);
        EDGE.due("props of \"" + text + "\"", x.count(0), 0);
    }

    private static void everyByte() {
        EDGE.words(4, "TOKENS: NAMES (a .. z), NUMBERS, the sign ; (a point is none), blanks (32)");
        for (int b = 0; b < 256; b++) {
            String sign = String.valueOf((char) b);
            boolean isToken = b >= 'a' && b <= 'z' || b >= '0' && b <= '9' || b == ';';
            if (b == 32) taken(sign, 0);
            else fails(sign, isToken ? 2 : 1, 0);
            if (b == 32) taken("tail" + sign + "1;", 1);
            else if (b >= '0' && b <= '9') fails("tail" + sign + "x;", b == '0' ? 3 : 2, b == '0' ? 4 : 5);
            else if (b >= 'a' && b <= 'z') fails("tail" + sign + "1;", 2, 0);
            else fails("tail" + sign + "1;", b == ';' ? 2 : 1, 4);
        }
    }

    private static void wholeTape() {
        EDGE.words(4, "THE TAPE has 400 bytes, places from 0");
        fails(".", 1, 0);
        fails(" ".repeat(399) + ".", 1, 399);
        fails(" ".repeat(399) + "x", 2, 399);
        fails(" ".repeat(399) + "1", 2, 399);
        fails(" ".repeat(394) + "tail 1", 2, 400);
        fails(" ".repeat(396) + "tail", 2, 400);
        fails("tail" + " ".repeat(396), 2, 400);
        fails(" ".repeat(393) + "tail 0;", 3, 398);
        taken(" ".repeat(393) + "tail 1;", 1);
        taken("tail 1;" + " ".repeat(393), 1);
        taken(" ".repeat(400), 0);
        fails("a".repeat(400), 2, 0);
        fails("1".repeat(400), 1, 0);
        fails(";".repeat(400), 2, 0);
        fails("tail " + "1".repeat(395), 1, 5);
    }

    private static void bytesBehindTheEnd() {
        EDGE.words(4, "THE TAPE keeps its first n bytes: those behind are not read");
        String[] fed = {"tail 12;", "propprop", "tail 1;.", "tail 1;x", "tail 1; "};
        int[] kept = {6, 4, 7, 7, 6};
        int[] due = {-16, -14, 1, 1, -16};
        for (int i = 0; i < fed.length; i++) {
            StepsByHand x = new StepsByHand();
            Room.put(x, fed[i]);
            x.end(kept[i]);
            EDGE.due("text() of the first " + kept[i] + " of \"" + fed[i] + "\"", x.text(), due[i]);
        }
    }

    private static void tokensAsLongAsMayBe() {
        EDGE.words(4, "TOKENS, each as long as may be (at least one blank between two NAMES, between two NUMBERS; else none is needed)");
        taken("prop0;prop5;stands0 1;cue0 1 0 1talk;cue0 1 0 1;walkers1;move1;tail1;most1;speech0 1 1;", 10);
        fails("propprop 0;", 2, 0);
        fails("prop 0;cue 0 1 0 1 talktalk;", 2, 19);
        fails("prop 0;cue 0 10 0;", 2, 17);
        fails("prop 0;cue 0 101;", 3, 13);
        fails(AHEAD + "stands 01;", 2, 23);
        taken("prop 0;cue 100 1 0 1;", 2);
    }

    private static void blanks() {
        EDGE.words(4, "blanks (32) ahead, between, behind, as many as wanted");
        taken("", 0);
        taken(" ", 0);
        taken(" tail 1;", 1);
        taken("tail 1; ", 1);
        taken("tail 1 ;", 1);
        taken("tail  1;", 1);
        taken("   prop   0   ;   cue   0   1   0   1   talk   ;   ", 2);
        fails("ta il 1;", 2, 0);
        fails("most 1 0;", 2, 7);
        fails("tail 1;  .", 1, 9);
        fails("tail    0;", 3, 8);
        fails("tail    ", 2, 8);
    }

    private static void numbersTooLong() {
        EDGE.words(4, "1 a NUMBER that is too long (its first byte); NUMBERS (1 to 3 figures)");
        taken("tail 1;", 1);
        taken("tail 01;", 1);
        taken("tail 001;", 1);
        fails("tail 0001;", 1, 5);
        fails("tail  1000;", 1, 6);
        fails("tail0001;", 1, 4);
        fails("0000", 1, 0);
        fails("tail 1 1111;", 1, 7);
        fails("tail 1;1111", 1, 7);
        fails("prop 0;cue 0 1 0 1 1111;", 1, 19);
        fails("prop 0;cue 0001 1 0 1;", 1, 11);
        taken("prop 000;cue 000 001 000 001;most 099;speech 000 500 009;", 4);
    }

    private static void namesThatBeginNoLine() {
        EDGE.words(4, "2 a TOKEN that can not stand there (a NAME that begins no line)");
        String[] begins = {"prop", "stands", "cue", "walkers", "move", "tail", "most", "speech"};
        for (String name : begins) {
            fails(name.substring(0, name.length() - 1) + " 1;", 2, 0);
            fails(name.substring(1) + " 1;", 2, 0);
            fails(name + "s 1;", 2, 0);
            fails("a" + name + " 1;", 2, 0);
            fails("x" + name.substring(1) + " 1;", 2, 0);
            fails(name.substring(0, name.length() - 1) + "a 1;", 2, 0);
            fails("most 1; " + name + "a 1;", 2, 8);
        }
        fails("talk;", 2, 0);
        fails("line;", 2, 0);
        fails("text;", 2, 0);
        fails("x", 2, 0);
    }

    private static String upTo(String[] tokens, int j) {
        return AHEAD + String.join(" ", List.of(tokens).subList(0, j)) + " ";
    }

    /** At each place of a line each kind of TOKEN that can not stand there, the end, no TOKEN, a NUMBER that is too long. */
    private static void everyPlaceOf(String form) {
        EDGE.words(4, "2 a TOKEN that can not stand there (or the end: the length)");
        String[] tokens = form.split(" ");
        taken(AHEAD + form, 3);
        for (int j = 1; j < tokens.length; j++) {
            String ahead = upTo(tokens, j);
            boolean wantsNumber = Character.isDigit(tokens[j].charAt(0));
            boolean mayTalk = form.startsWith("cue") && j == 5;
            if (!wantsNumber) fails(ahead + "1 ;", 2, ahead.length());
            if (wantsNumber) fails(ahead + ";", 2, ahead.length());
            if (!mayTalk) fails(ahead + "talk ;", 2, ahead.length());
            fails(ahead + "prop ;", 2, ahead.length());
            fails(ahead + "x ;", 2, ahead.length());
            fails(ahead + "talks ;", 2, ahead.length());
            fails(ahead + "tal ;", 2, ahead.length());
            fails(ahead.trim(), 2, ahead.length() - 1);
            fails(ahead, 2, ahead.length());
            fails(ahead + "   ", 2, ahead.length() + 3);
            fails(ahead + ".", 1, ahead.length());
            fails(ahead + "1111;", 1, ahead.length());
        }
        String whole = AHEAD + form;
        fails(whole + " ;", 2, whole.length() + 1);
        fails(whole + " 1", 2, whole.length() + 1);
        fails(whole + " talk", 2, whole.length() + 1);
        fails(whole + " .", 1, whole.length() + 1);
    }

    private static void bounds(String ahead, int least, int greatest, String behind) {
        taken(ahead + least + behind, 1);
        taken(ahead + greatest + behind, 1);
        if (least > 0) fails(ahead + (least - 1) + behind, 3, ahead.length());
        fails(ahead + (greatest + 1) + behind, 3, ahead.length());
        fails(ahead + "999" + behind, 3, ahead.length());
    }

    private static void boundsOfSingleNumbers() {
        EDGE.words(4, "3 a NUMBER out of its bounds: TRAY (0 to 5)");
        bounds("prop ", 0, 5, ";");
        EDGE.words(4, "3 a NUMBER out of its bounds: walkers: 1 to 3");
        bounds("walkers ", 1, 3, ";");
        EDGE.words(4, "3 a NUMBER out of its bounds: move: 0 to 9");
        bounds("move ", 0, 9, ";");
        EDGE.words(4, "3 a NUMBER out of its bounds: tail: 1 to 9");
        bounds("tail ", 1, 9, ";");
        EDGE.words(4, "3 a NUMBER out of its bounds: most: 1 to 99");
        bounds("most ", 1, 99, ";");
    }

    /** Numbers of a line behind AHEAD, the greatest and the next one, at a place of that line. */
    private static void boundsBehindProps(String ahead, int least, int greatest, String behind) {
        String all = AHEAD + ahead;
        taken(all + least + behind, 3);
        taken(all + greatest + behind, 3);
        if (least > 0) fails(all + (least - 1) + behind, 3, all.length());
        fails(all + (greatest + 1) + behind, 3, all.length());
        fails(all + "999" + behind, 3, all.length());
    }

    private static void boundsOfCues() {
        EDGE.words(4, "3 a NUMBER out of its bounds: FRAMES 0 to 499");
        boundsBehindProps("cue ", 0, 499, " 1 0 1;");
        EDGE.words(4, "3 a NUMBER out of its bounds (how long: beyond 499; 1 to 60)");
        int[] begins = {0, 1, 439, 440, 441, 470, 498, 499};
        for (int f : begins) boundsBehindProps("cue " + f + " ", 1, Math.min(60, 500 - f), " 1 1;");
        EDGE.words(4, "3 a NUMBER out of its bounds: a PROP that is not told");
        boundsBehindProps("cue 0 1 ", 0, 1, " 1;");
        fails("cue 0 1 0 1;", 3, 8);
        fails("cue 0 1 0 1;prop 0;", 3, 8);
        taken("prop 0;".repeat(8) + "cue 0 1 7 1;", 9);
        fails("prop 0;".repeat(8) + "cue 0 1 8 1;", 3, 64);
        EDGE.words(4, "3 a NUMBER out of its bounds: LOUD (1 to 9)");
        boundsBehindProps("cue 0 1 0 ", 1, 9, ";");
        boundsBehindProps("cue 0 1 0 ", 1, 9, " talk;");
    }

    private static void boundsOfSpeech() {
        EDGE.words(4, "3 a NUMBER out of its bounds: speech: from a FRAME on");
        bounds("speech ", 0, 499, " 1 1;");
        EDGE.words(4, "3 a NUMBER out of its bounds: how many (1 to 500, none beyond 499)");
        int[] begins = {0, 1, 2, 439, 440, 498, 499};
        for (int f : begins) bounds("speech " + f + " ", 1, 500 - f, " 1;");
        EDGE.words(4, "3 a NUMBER out of its bounds: how LOUD (1 to 9)");
        bounds("speech 0 1 ", 1, 9, ";");
    }

    private static void boundsOfStands() {
        EDGE.words(4, "stands: a PROP may stand for another one (both told ahead)");
        taken(AHEAD + "stands 0 1;", 3);
        taken(AHEAD + "stands 1 0;", 3);
        fails(AHEAD + "stands 2 0;", 3, 21);
        fails(AHEAD + "stands 0 2;", 3, 23);
        fails("stands 0 1;" + AHEAD, 3, 7);
        fails("prop 0;stands 0 1;prop 0;", 3, 16);
        taken("prop 0;".repeat(8) + "stands 7 0;stands 0 7;", 10);
        fails("prop 0;".repeat(8) + "stands 8 0;", 3, 63);
        fails("prop 0;".repeat(8) + "stands 0 8;", 3, 65);
        EDGE.words(4, "3 the second of stands like the first");
        for (int p = 0; p < 8; p++) fails("prop 0;".repeat(8) + "stands " + p + " " + p + ";", 3, 65);
        fails("prop 0;stands 0 00;", 3, 16);
    }

    private static void forTheSecondTime() {
        EDGE.words(4, "4 walkers, move, tail, most for the second time (its NAME)");
        String[] rules = {"walkers", "move", "tail", "most"};
        for (String rule : rules) {
            String once = rule + " 1;";
            taken(once, 1);
            fails(once + once, 4, once.length());
            fails(once + " " + rule + " 2;", 4, once.length() + 1);
            fails(once + rule, 4, once.length());
            fails(once + AHEAD + "cue 0 1 0 1;" + rule + " 3;", 4, once.length() + AHEAD.length() + 12);
            StepsByHand x = new StepsByHand();
            Checks.tell(x, once + once);
            EDGE.due("in the text behind one that was refused: " + once, Checks.tell(x, once), 1);
            EDGE.due("in the text behind one that was taken: " + once, Checks.tell(x, once), 1);
        }
        taken("walkers 1;move 1;tail 1;most 1;", 4);
        taken("prop 1;prop 1;speech 1 1 1;speech 1 1 1;cue 1 1 1 1;cue 1 1 1 1;", 6);
        EDGE.words(4, "4 stands of those two again (the second)");
        fails(AHEAD + "stands 0 1;stands 0 1;", 4, 34);
        fails(AHEAD + "stands 0 1;stands 1 0;stands 0   1;", 4, 47);
        fails(AHEAD + "stands 1 0;stands 1 0;", 4, 34);
        taken(AHEAD + "stands 0 1;stands 1 0;", 4);
        taken(AHEAD + "prop 0;stands 0 1;stands 1 2;stands 0 2;", 6);
        StepsByHand x = new StepsByHand();
        Checks.tell(x, AHEAD + "stands 0 1;stands 0 1;");
        EDGE.due("stands 0 1 in the text behind it", Checks.tell(x, AHEAD + "stands 0 1;"), 3);
        EDGE.due("stands 0 1 in the text behind that", Checks.tell(x, AHEAD + "stands 0 1;"), 3);
    }

    private static void tooMany() {
        EDGE.words(4, "5 the 9th prop (its NAME)");
        taken("prop 0;".repeat(8), 8);
        fails("prop 0;".repeat(9), 5, 56);
        fails("prop 0;".repeat(8) + "   prop", 5, 59);
        EDGE.words(4, "5 the 17th cue (its NAME)");
        taken("prop 0;" + "cue 1 1 0 1;".repeat(16), 17);
        fails("prop 0;" + "cue 1 1 0 1;".repeat(17), 5, 199);
        fails("prop 0;" + "cue 1 1 0 1 talk;".repeat(16) + "cue", 5, 279);
        EDGE.words(4, "5 the 9th speech (its NAME)");
        taken("speech 1 1 1;".repeat(8), 8);
        fails("speech 1 1 1;".repeat(9), 5, 104);
        fails("speech 1 1 1;".repeat(8) + " speech", 5, 105);
        EDGE.words(4, "5: in the next text they are counted anew");
        StepsByHand x = new StepsByHand();
        for (int i = 0; i < 2; i++) {
            EDGE.due("the full text", Checks.tell(x, Room.FULL_TEXT), 32);
            EDGE.due("the 9th prop", Checks.tell(x, "prop 0;".repeat(9)), -66);
            EDGE.due("8 props", Checks.tell(x, "prop 0;".repeat(8)), 8);
        }
    }

    private static void firstMet() {
        EDGE.words(4, "the first met as it is read (a TOKEN is read when the one before has been taken)");
        fails("x .", 2, 0);
        fails("x 1111;", 2, 0);
        fails("tail 0.", 3, 5);
        fails("tail 0 0;", 3, 5);
        fails("tail 1;tail.", 4, 7);
        fails("tail 1;tail 0;", 4, 7);
        fails("prop 0;".repeat(8) + "prop.", 5, 56);
        fails("prop 0;".repeat(8) + "prop 9;", 5, 56);
        fails(AHEAD + "stands 2 2;", 3, 21);
        fails(AHEAD + "stands 0 0.", 3, 23);
        fails(AHEAD + "stands 0 1;stands 0 1.", 4, 34);
        fails("prop 0;cue 500 0 9 0;", 3, 11);
        fails("prop 0;cue 499 2 9 0;", 3, 15);
        fails("prop 0;cue 499 1 9 0;", 3, 17);
        fails("prop 0;cue 499 1 0 0;", 3, 19);
        fails("speech 500 0 0;", 3, 7);
        fails("speech 499 2 0;", 3, 11);
        fails("speech 499 1 0;", 3, 13);
        fails("tail 0;x", 3, 5);
    }

    private static void howManyLines() {
        EDGE.words(4, "how many lines");
        taken("", 0);
        taken("most 9;", 1);
        taken(Room.FULL_TEXT, 32);
        StringBuilder text = new StringBuilder("prop0;".repeat(8));
        int lines = 8;
        for (int a = 0; a < 8; a++) {
            for (int b = 0; b < 4; b++) {
                if (a == b) continue;
                text.append("stands").append(a).append(' ').append(b).append(';');
                lines++;
            }
        }
        taken(text.toString(), lines);
    }

    private static void tellsAllInPlace() {
        EDGE.words(4, "A text that is taken tells all, in place of what there was (what it does not tell is as at first)");
        for (int ahead = 1; ahead <= 3; ahead++) {
            StepsByHand x = new StepsByHand();
            for (int i = 0; i < ahead; i++) Checks.tell(x, Room.SOME_TEXT);
            EDGE.due("text() behind " + ahead, Checks.tell(x, "prop 4;prop 4;prop 4;cue 0 10 0 5;cue 5 10 1 4;"), 5);
            EDGE.due("prop(0, 0)", x.prop(0, 0), 4);
            EDGE.due("prop(0, 1)", x.prop(0, 1), 1);
            EDGE.due("cue(1, 4)", x.cue(1, 4), 0);
            EDGE.due("count(1)", x.count(1), 2);
            EDGE.due("cue(2, 0)", x.cue(2, 0), Room.BAD);
        }
    }

    private static void othersStay() {
        EDGE.words(4, "the other things, told by hand, SHEETS stay");
        StepsByHand y = Room.some();
        y.end(0);
        EDGE.due("text() of nothing", y.text(), 0);
        int[] counts = {0, 0, 0, 3, 3, 2, 2, 2, 0, 9};
        for (int what = 0; what < 10; what++) EDGE.due("count(" + what + ")", y.count(what), counts[what]);
        EDGE.due("torn()", y.torn(), 2);
        EDGE.due("miss(0)", y.miss(0), 1 + 3 + 5);
        EDGE.due("anew(0)", y.anew(0), 32);
        EDGE.due("joined(1, 0)", y.joined(1, 0), 2);
        Checks.tell(y, "prop 0;prop 0;prop 0;");
        EDGE.due("read(2, 2, 0, 2)", y.read(2, 2, 0, 2), 2);
        EDGE.due("cue(0, 0)", y.cue(0, 0), 42);
        EDGE.due("cue(1, 3)", y.cue(1, 3), 8);
    }

    /** An object may keep two texts in turn, so what one of them told may come back only later. */
    private static void whatIsNotToldIsAsAtFirst() {
        EDGE.words(4, "what it does not tell is as at first, however many texts there were, taken or refused");
        String told = Room.SOME_TEXT + "cue 0 1 0 1 talk;";
        for (int taken = 0; taken < 4; taken++) {
            for (int spoilt = 0; spoilt < 3; spoilt++) {
                StepsByHand x = new StepsByHand();
                for (int i = 0; i < taken; i++) Checks.tell(x, told);
                for (int i = 0; i < spoilt; i++) Checks.tell(x, told + ".");
                for (int i = 0; i < 2; i++) asAtFirst(x, "text " + i + " behind " + taken + " taken and " + spoilt + " refused");
            }
        }
    }

    private static void asAtFirst(StepsByHand x, String when) {
        int[] rules = {2, 2, 1, 99};
        EDGE.due(when + ", text()", x.text(), 0);
        for (int what = 0; what < 4; what++) EDGE.due(when + ", rule(" + what + ")", x.rule(what), rules[what]);
        for (int what = 0; what < 3; what++) EDGE.due(when + ", count(" + what + ")", x.count(what), 0);
        EDGE.due(when + ", speech(5)", x.speech(5), 0);
    }

    private static void refusedTextLeavesAll() {
        EDGE.words(4, "-10 less the place of its FAULT: that which was told stays; THE TAPE (empty then, by a FAULT, too)");
        String told = "prop 5;prop 5;prop 5;prop 5;stands 1 3;cue 9 9 3 9 talk;walkers 1;move 9;tail 9;most 1;speech 0 500 9;";
        String[] spoilt = {".", "x", "tail", "cue 500", "tail 9;", "prop 0;".repeat(5), ";", "stands 1 3;", "speech 1 1 1 1"};
        int[] faults = {1, 2, 4, 3, 4, 5, 2, 4, 2};
        int[] places = {0, 0, 0, 4, 0, 28, 0, 9, 13};
        for (int i = 0; i < spoilt.length; i++) {
            StepsByHand one = Room.some();
            StepsByHand other = Room.some();
            one.end(0);
            other.end(0);
            EDGE.due("a text with " + spoilt[i] + " at its end", Checks.tell(one, told + spoilt[i]), -10 - told.length() - places[i]);
            EDGE.due("fault()", one.fault(), faults[i]);
            EDGE.due("count(8)", one.count(8), 0);
            List<String> now = Room.answers(one);
            List<String> before = Room.answers(other);
            now.removeIf(s -> s.startsWith("fault() "));
            before.removeIf(s -> s.startsWith("fault() "));
            String difference = Room.difference(now, before);
            EDGE.due("a text with " + spoilt[i] + " at its end has changed " + difference, difference.length(), 0);
        }
    }
}
