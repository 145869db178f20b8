import java.util.ArrayList;
import java.util.List;

/** Objects with something of all in them, and all that they answer. */
final class Room {
    static final int BAD = StepsByHand.BAD, STATE = StepsByHand.STATE, FULL = StepsByHand.FULL, NONE = StepsByHand.NONE;
    static final int LEAST_INT = Integer.MIN_VALUE, GREATEST_INT = Integer.MAX_VALUE;
    static final int ALL_CUES = 65535;

    static final String SOME_TEXT = "prop 1;prop 2;prop 1;stands 0 2;walkers 3;move 3;tail 2;most 12;speech 5 20 4;"
        + "cue 0 10 0 5;cue 5 10 1 4 talk;cue 12 4 2 3;cue 30 6 0 9 talk;";
    static final String FULL_TEXT = "prop5;".repeat(8) + "cue9 9 7 9talk;".repeat(16) + "speech9 1 8;".repeat(8);

    private Room() {
    }

    /** Some of all, nothing of it full: three props, six cues, a fault of a text and one of a read, bytes on THE TAPE. */
    static StepsByHand some() {
        StepsByHand x = Checks.told(SOME_TEXT);
        Checks.tell(x, "prop 6;");
        for (int i = 0; i < 3; i++) {
            x.hit(0, 10 * i + 5);
            x.hit(1, 12 * i + 6);
        }
        x.piece(0, 12);
        x.piece(28, 20);
        x.entry(0, 5, 1);
        x.entry(0, 9, 2);
        x.entry(1, 6, 1);
        x.entry(1, 9, 2);
        for (int k = 0; k < 3; k++) {
            x.sheet(k, k, 9);
            lay(x, k, 0, 40 + k, 5, 1, 6, 60 + k, 7, 2, 8);
        }
        x.read(1, 1, 0, 3);
        put(x, "tail 4; ");
        return x;
    }

    /** As much of all as there may be. */
    static StepsByHand full() {
        StepsByHand x = Checks.told(FULL_TEXT);
        for (int i = 0; i < 12; i++) {
            x.hit(0, 10 * i);
            x.hit(1, 11 * i);
            x.entry(0, i, i % 8);
            x.entry(1, i, i % 8);
        }
        for (int i = 0; i < 8; i++) x.piece(i, 20);
        for (int k = 0; k < 4; k++) x.sheet(k, k % 3, 40);
        put(x, "tail 4; ".repeat(50));
        return x;
    }

    /** Puts a text behind what THE TAPE has; its length is told in eights. */
    static void put(StepsByHand x, String text) {
        for (int at = 0; at + 8 <= text.length(); at += 8) x.feed(word(text.substring(at, at + 8)));
    }

    static long word(String eight) {
        long v = 0;
        for (int i = 0; i < 8; i++) v = v << 8 | eight.charAt(i);
        return v;
    }

    static void lay(StepsByHand x, int k, int at, int... cells) {
        for (int i = 0; i < cells.length; i++) x.lay(k, at + i, cells[i]);
    }

    /** All that can be asked; in the end THE TAPE and the sheets, which is no mere asking, so the object is used up. */
    static List<String> answers(StepsByHand x) {
        List<String> all = new ArrayList<>();
        askCounts(x, all, "");
        askCues(x, all, 0);
        askMix(x, all);
        askByHand(x, all);
        askSheets(x, all);
        all.add("text() " + x.text() + " " + x.fault());
        askCounts(x, all, "behind the text ");
        return all;
    }

    private static void askCounts(StepsByHand x, List<String> all, String when) {
        for (int what = 0; what < 10; what++) all.add(when + "count(" + what + ") " + x.count(what));
        for (int what = 0; what < 4; what++) all.add(when + "rule(" + what + ") " + x.rule(what));
        all.add(when + "fault() " + x.fault());
        all.add(when + "torn() " + x.torn());
    }

    private static void askCues(StepsByHand x, List<String> all, int from) {
        for (int c = from; c < x.count(1); c++) {
            for (int what = 0; what < 5; what++) all.add("cue(" + c + ", " + what + ") " + x.cue(c, what));
        }
    }

    private static void askMix(StepsByHand x, List<String> all) {
        for (int p = 0; p < x.count(0); p++) all.add("prop(" + p + ") " + x.prop(p, 0) + " " + x.prop(p, 1));
        int cues = (1 << x.count(1)) - 1;
        for (int what = 0; what < 4; what++) all.add("clips(all, " + what + ") " + x.clips(cues, what));
        int nine = cues & 511;
        for (int what = 0; what < 3; what++) all.add("passes(nine, " + what + ") " + x.passes(nine, what));
        for (int w = 0; w < x.rule(0); w++) all.add("does(nine, 0, " + w + ") " + x.does(nine, 0, w));
        for (int f = 0; f < 45; f += 4) all.add("speech(" + f + ") " + x.speech(f));
        all.add("masked() " + x.masked());
        all.add("carry(all, 1) " + x.carry(cues, 1));
        all.add("foreign(0, 0) " + x.foreign(0, 0));
    }

    private static void askByHand(StepsByHand x, List<String> all) {
        for (int what = 0; what < 4; what++) all.add("anew(" + what + ") " + x.anew(what));
        for (int c = 0; c < x.count(1); c++) all.add("moved(" + c + ") " + x.moved(c));
        for (int c = 0; c < 4; c++) all.add("cuts(" + c + ") " + x.cuts(c));
        for (int d = -20; d <= 20; d += 5) all.add("miss(" + d + ") " + x.miss(d));
        for (int i = 0; i < x.count(6); i++) all.add("joined(1, " + (10 + i) + ") " + x.joined(1, 10 + i));
        all.add("joined(99, 0) " + x.joined(99, 0));
        for (int side = 0; side < 2; side++) all.add("hit(" + side + ", 498) " + x.hit(side, 498));
        for (int list = 0; list < 2; list++) all.add("entry(" + list + ", 498, 7) " + x.entry(list, 498, 7));
    }

    private static void askSheets(StepsByHand x, List<String> all) {
        int before = x.count(1);
        for (int k = 0; k < 4; k++) {
            for (int lane = 0; lane < 3; lane++) {
                all.add("read(" + k + ", " + lane + ", 0, 3) " + x.read(k, lane, 0, 3) + " " + x.torn());
            }
        }
        askCues(x, all, before);
    }

    static String difference(List<String> one, List<String> other) {
        for (int i = 0; i < Math.max(one.size(), other.size()); i++) {
            String a = i < one.size() ? one.get(i) : "nothing";
            String b = i < other.size() ? other.get(i) : "nothing";
            if (!a.equals(b)) return b + " to " + a;
        }
        return "";
    }
}
