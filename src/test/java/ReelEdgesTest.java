/** The edges of promises 30 to 36: piece, whole, anew, moved, entry, tear, joined. */
public final class ReelEdgesTest {
    private static final Edges EDGE = new Edges("ReelEdgesTest");
    private static final int BAD = Room.BAD, FULL = Room.FULL, NONE = Room.NONE, ALL = Room.ALL_CUES;
    private static final int FAR = Room.GREATEST_INT;

    public static void main(String[] args) {
        piecesAtTheEdges();
        pieceRefused();
        eightPieces();
        wholeAgain();
        framesAnew();
        movesAgainGone();
        anewRefused();
        movedWithTheFirst();
        movedRefused();
        entriesAtTheEdges();
        entryRefused();
        twelveEntries();
        tornUp();
        joinedWithin();
        joinedOfNone();
        joinedInOrder();
        joinedPartners();
        joinedRefused();
        EDGE.finish(30, 36);
    }

    private static StepsByHand cut(String text, int... pieces) {
        StepsByHand x = Checks.told(text);
        for (int i = 0; i + 1 < pieces.length; i += 2) x.piece(pieces[i], pieces[i + 1]);
        return x;
    }

    private static void piecesAtTheEdges() {
        EDGE.words(30, "from a FRAME on, so many FRAMES (none beyond 499): how many there are");
        StepsByHand x = new StepsByHand();
        EDGE.due("piece(0, 1)", x.piece(0, 1), 1);
        EDGE.due("piece(499, 1)", x.piece(499, 1), 2);
        EDGE.due("piece(0, 500)", x.piece(0, 500), 3);
        EDGE.due("piece(1, 499)", x.piece(1, 499), 4);
        EDGE.due("the same again", x.piece(1, 499), 5);
        EDGE.due("anew(0)", x.anew(0), 1 + 1 + 500 + 499 + 499);
    }

    private static void pieceRefused() {
        EDGE.words(30, "BAD: there is no such FRAME");
        EDGE.from(Room::some);
        EDGE.outside("piece(#, 1)", 0, 499, BAD, (x, v) -> x.piece(v, 1));
        EDGE.outside("piece(#, 500)", 0, 0, BAD, (x, v) -> x.piece(v, 500));
        EDGE.words(30, "BAD: none beyond 499; a PIECE has FRAMES");
        EDGE.outside("piece(0, #)", 1, 500, BAD, (x, v) -> x.piece(0, v));
        EDGE.outside("piece(1, #)", 1, 499, BAD, (x, v) -> x.piece(1, v));
        EDGE.outside("piece(499, #)", 1, 1, BAD, (x, v) -> x.piece(499, v));
        EDGE.refused("piece(MAX, MAX)", BAD, x -> x.piece(FAR, FAR));
        EDGE.refused("piece(MAX, 1)", BAD, x -> x.piece(FAR, 1));
        EDGE.refused("piece(MIN, MIN)", BAD, x -> x.piece(Room.LEAST_INT, Room.LEAST_INT));
        EDGE.refused("piece(MIN, MAX)", BAD, x -> x.piece(Room.LEAST_INT, FAR));
        EDGE.refused("piece(-1, 2)", BAD, x -> x.piece(-1, 2));
    }

    private static void eightPieces() {
        EDGE.words(30, "PIECES (8): FULL");
        StepsByHand x = new StepsByHand();
        for (int i = 1; i <= 8; i++) EDGE.due("piece " + i, x.piece(i, 1), i);
        EDGE.from(Room::full);
        EDGE.refused("piece(0, 1), the 9th", FULL, y -> y.piece(0, 1));
        EDGE.refused("piece(0, 500), the 9th", FULL, y -> y.piece(0, 500));
        EDGE.words(30, "the first that fits: BAD ahead of FULL");
        EDGE.refused("piece(0, 501), the 9th", BAD, y -> y.piece(0, 501));
        EDGE.refused("piece(0, 0), the 9th", BAD, y -> y.piece(0, 0));
        EDGE.refused("piece(500, 1), the 9th", BAD, y -> y.piece(500, 1));
        EDGE.refused("piece(-1, 1), the 9th", BAD, y -> y.piece(-1, 1));
    }

    private static void wholeAgain() {
        EDGE.words(31, "PIECES are gone: how many there were");
        EDGE.due("of none", new StepsByHand().whole(), 0);
        StepsByHand x = Room.full();
        EDGE.due("of 8", x.whole(), 8);
        EDGE.due("again", x.whole(), 0);
        EDGE.due("count(5)", x.count(5), 0);
        EDGE.due("anew(0)", x.anew(0), 0);
        EDGE.due("anew(3)", x.anew(3), ALL);
        EDGE.due("piece(9, 9)", x.piece(9, 9), 1);
        EDGE.due("moved(15)", x.moved(15), 0);
        StepsByHand kept = Room.full();
        kept.whole();
        int[] counts = {8, 16, 8, 12, 12, 0, 12, 12, 400, 40};
        for (int what = 0; what < 10; what++) EDGE.due("all else stays: count(" + what + ")", kept.count(what), counts[what]);
    }

    private static void framesAnew() {
        EDGE.words(32, "FRAMES of the new reel (what 0)");
        EDGE.due("no PIECES", new StepsByHand().anew(0), 0);
        EDGE.due("one FRAME", cut("", 7, 1).anew(0), 1);
        EDGE.due("8 of 500", cut("", 0, 500, 0, 500, 0, 500, 0, 500, 0, 500, 0, 500, 0, 500, 0, 500).anew(0), 4000);
    }

    private static void fates(String what, StepsByHand x, int moves, int again, int gone) {
        EDGE.due(what + ": MOVES", x.anew(1), moves);
        EDGE.due(what + ": AGAIN", x.anew(2), again);
        EDGE.due(what + ": GONE", x.anew(3), gone);
    }

    private static void movesAgainGone() {
        EDGE.words(32, "lies whole in a PIECE: MOVES; else, if some of it is in some PIECE: AGAIN; else GONE");
        String text = "prop 0;cue 10 5 0 1;cue 9 5 0 1;cue 11 5 0 1;cue 5 5 0 1;cue 15 5 0 1;cue 5 6 0 1;cue 14 5 0 1;cue 9 7 0 1;cue 12 1 0 1;";
        fates("a PIECE of 10 to 14", cut(text, 10, 5), 1 + 256, 2 + 4 + 32 + 64 + 128, 8 + 16);
        fates("no PIECES", cut(text), 0, 0, 511);
        fates("all of the reel", cut(text, 0, 500), 511, 0, 0);
        fates("over a seam of two PIECES", cut("prop 0;cue 10 5 0 1;", 0, 12, 12, 20), 0, 1, 0);
        fates("the same FRAMES again", cut("prop 0;cue 10 5 0 1;", 10, 4, 11, 4), 0, 1, 0);
        fates("whole in the last of 8", cut("prop 0;cue 10 5 0 1;", 0, 1, 0, 1, 0, 1, 0, 1, 0, 1, 0, 1, 0, 1, 10, 5), 1, 0, 0);
        fates("AGAIN in the first, whole in the second", cut("prop 0;cue 10 5 0 1;", 10, 4, 10, 5), 1, 0, 0);
        fates("one FRAME, the first", cut("prop 0;cue 0 1 0 1;", 0, 1), 1, 0, 0);
        fates("one FRAME, the last", cut("prop 0;cue 499 1 0 1;", 499, 1), 1, 0, 0);
        fates("one FRAME ahead of the last", cut("prop 0;cue 499 1 0 1;", 498, 1), 0, 0, 1);
        fates("60 FRAMES, a PIECE of 59", cut("prop 0;cue 440 60 0 1;", 441, 59), 0, 1, 0);
        fates("no CUES", cut("", 0, 500), 0, 0, 0);
        fates("16 CUES", cut(Room.FULL_TEXT, 9, 9), ALL, 0, 0);
        fates("16 CUES, one FRAME", cut(Room.FULL_TEXT, 17, 1), 0, ALL, 0);
        fates("16 CUES, behind", cut(Room.FULL_TEXT, 18, 9), 0, 0, ALL);
    }

    private static void anewRefused() {
        EDGE.words(32, "BAD");
        EDGE.from(Room::some);
        EDGE.outside("anew(#)", 0, 3, BAD, (x, v) -> x.anew(v));
        EDGE.from(StepsByHand::new);
        EDGE.outside("anew(#) of none", 0, 3, BAD, (x, v) -> x.anew(v));
    }

    private static void movedWithTheFirst() {
        EDGE.words(33, "Where a CUE that MOVES begins in the new reel (with the first such)");
        String text = "prop 0;cue 10 5 0 1;cue 0 1 0 1;cue 499 1 0 1;";
        StepsByHand x = cut(text, 10, 5, 0, 500);
        EDGE.due("at its first FRAME", x.moved(0), 0);
        EDGE.due("the first FRAME, behind a PIECE", x.moved(1), 5);
        EDGE.due("the last FRAME, behind a PIECE", x.moved(2), 504);
        StepsByHand far = cut(text, 0, 499, 0, 499, 0, 499, 0, 499, 0, 499, 0, 499, 0, 499, 0, 500);
        EDGE.due("in the last of 8", far.moved(2), 7 * 499 + 499);
        EDGE.due("in the first of 8", far.moved(0), 10);
        EDGE.due("not where some of it is ahead", cut(text, 11, 10, 5, 10).moved(0), 15);
        EDGE.words(33, "NONE: it does not");
        EDGE.due("no PIECES", cut(text).moved(0), NONE);
        EDGE.due("a FRAME short at its end", cut(text, 10, 4).moved(0), NONE);
        EDGE.due("a FRAME short at its beginning", cut(text, 11, 9).moved(0), NONE);
        EDGE.due("over a seam", cut(text, 10, 2, 12, 3).moved(0), NONE);
        EDGE.due("GONE", cut(text, 15, 5).moved(0), NONE);
    }

    private static void movedRefused() {
        EDGE.words(33, "BAD; the first that fits: BAD ahead of NONE");
        EDGE.from(Room::some);
        EDGE.outside("moved(#) of 6", 0, 5, BAD, (x, v) -> x.moved(v));
        EDGE.from(Room::full);
        EDGE.outside("moved(#) of 16", 0, 15, BAD, (x, v) -> x.moved(v));
        EDGE.from(() -> Checks.told("prop 0;cue 0 1 0 1;"));
        EDGE.outside("moved(#) of 1, no PIECES", 0, 0, BAD, (x, v) -> x.moved(v));
    }

    private static StepsByHand lists(int[][] zero, int[][] one) {
        StepsByHand x = new StepsByHand();
        for (int[] e : zero) x.entry(0, e[0], e[1]);
        for (int[] e : one) x.entry(1, e[0], e[1]);
        return x;
    }

    private static int[][] row(int... framesAndProps) {
        int[][] entries = new int[framesAndProps.length / 2][];
        for (int i = 0; i < entries.length; i++) entries[i] = new int[] {framesAndProps[2 * i], framesAndProps[2 * i + 1]};
        return entries;
    }

    private static void entriesAtTheEdges() {
        EDGE.words(34, "rising FRAMES (or the same), a PROP's number (0 to 7)");
        for (int list = 0; list < 2; list++) {
            StepsByHand one = new StepsByHand();
            EDGE.due("entry(" + list + ", 5, 0)", one.entry(list, 5, 0), 1);
            EDGE.due("ahead of the only one: entry(" + list + ", 4, 0)", one.entry(list, 4, 0), BAD);
            EDGE.due("ahead of that of the other LIST", one.entry(1 - list, 4, 0), 1);
            StepsByHand x = new StepsByHand();
            EDGE.due("entry(" + list + ", 0, 0)", x.entry(list, 0, 0), 1);
            EDGE.due("the same FRAME: entry(" + list + ", 0, 7)", x.entry(list, 0, 7), 2);
            EDGE.due("the same of all: entry(" + list + ", 0, 7)", x.entry(list, 0, 7), 3);
            EDGE.due("entry(" + list + ", 499, 7)", x.entry(list, 499, 7), 4);
            EDGE.due("ahead: entry(" + list + ", 498, 7)", x.entry(list, 498, 7), BAD);
            EDGE.due("entry(" + list + ", 499, 0)", x.entry(list, 499, 0), 5);
            EDGE.due("its count", x.count(6 + list), 5);
            EDGE.due("count of the other", x.count(7 - list), 0);
            EDGE.due("PROPS need not be told", x.count(0), 0);
        }
    }

    private static void entryRefused() {
        EDGE.words(34, "BAD: LISTS 0 and 1");
        EDGE.from(Room::some);
        EDGE.outside("entry(#, 400, 0)", 0, 1, BAD, (x, v) -> x.entry(v, 400, 0));
        EDGE.words(34, "BAD: there is no such FRAME; also ahead of it");
        EDGE.outside("entry(0, #, 0) behind 9", 9, 499, BAD, (x, v) -> x.entry(0, v, 0));
        EDGE.outside("entry(1, #, 0) behind 9", 9, 499, BAD, (x, v) -> x.entry(1, v, 0));
        EDGE.refused("entry(0, 0, 0) behind 9", BAD, x -> x.entry(0, 0, 0));
        EDGE.words(34, "BAD: a PROP's number (0 to 7)");
        EDGE.outside("entry(0, 400, #)", 0, 7, BAD, (x, v) -> x.entry(0, 400, v));
        EDGE.outside("entry(1, 400, #)", 0, 7, BAD, (x, v) -> x.entry(1, 400, v));
        EDGE.from(StepsByHand::new);
        EDGE.outside("entry(0, #, 0) of none", 0, 499, BAD, (x, v) -> x.entry(0, v, 0));
    }

    private static void twelveEntries() {
        EDGE.words(34, "LISTS (12 each): FULL");
        StepsByHand x = new StepsByHand();
        for (int i = 1; i <= 12; i++) {
            EDGE.due("entry(0, ..) " + i, x.entry(0, i, 3), i);
            EDGE.due("entry(1, ..) " + i, x.entry(1, 2 * i, 4), i);
        }
        EDGE.from(Room::full);
        EDGE.refused("entry(0, 11, 0), the 13th", FULL, y -> y.entry(0, 11, 0));
        EDGE.refused("entry(1, 499, 7), the 13th", FULL, y -> y.entry(1, 499, 7));
        EDGE.words(34, "the first that fits: BAD ahead of FULL");
        EDGE.refused("entry(0, 10, 0), the 13th, ahead", BAD, y -> y.entry(0, 10, 0));
        EDGE.refused("entry(0, 500, 0), the 13th", BAD, y -> y.entry(0, 500, 0));
        EDGE.refused("entry(0, 499, 8), the 13th", BAD, y -> y.entry(0, 499, 8));
        EDGE.refused("entry(2, 499, 0), the 13th", BAD, y -> y.entry(2, 499, 0));
        StepsByHand one = new StepsByHand();
        for (int i = 0; i < 12; i++) one.entry(1, i, 0);
        EDGE.due("the other LIST has room", one.entry(0, 0, 0), 1);
    }

    private static void tornUp() {
        EDGE.words(35, "Both LISTS are empty: how many entries there were");
        EDGE.due("of none", new StepsByHand().tear(), 0);
        StepsByHand x = Room.full();
        EDGE.due("of 24", x.tear(), 24);
        EDGE.due("again", x.tear(), 0);
        EDGE.due("count(6)", x.count(6), 0);
        EDGE.due("count(7)", x.count(7), 0);
        EDGE.due("joined(99, 0)", x.joined(99, 0), 0);
        EDGE.due("joined(99, 10)", x.joined(99, 10), BAD);
        EDGE.due("entry(0, 0, 0)", x.entry(0, 0, 0), 1);
        EDGE.due("entry(1, 0, 0)", x.entry(1, 0, 0), 1);
        EDGE.due("of LIST 0 alone", lists(row(1, 1, 2, 2), row()).tear(), 2);
        EDGE.due("of LIST 1 alone", lists(row(), row(1, 1)).tear(), 1);
        StepsByHand kept = Room.full();
        kept.tear();
        int[] counts = {8, 16, 8, 12, 12, 8, 0, 0, 400, 40};
        for (int what = 0; what < 10; what++) EDGE.due("all else stays: count(" + what + ")", kept.count(what), counts[what]);
    }

    private static void joinedWithin() {
        EDGE.words(36, "of the same PROP, no more than t apart; within t FRAMES (0 to 99)");
        for (int t = 0; t <= 99; t += 33) {
            EDGE.due(t + " later, joined(" + t + ", 0)", lists(row(200, 1), row(200 + t, 1)).joined(t, 0), 1);
            EDGE.due(t + " earlier, joined(" + t + ", 0)", lists(row(200, 1), row(200 - t, 1)).joined(t, 0), 1);
            EDGE.due(t + 1 + " later, joined(" + t + ", 0)", lists(row(200, 1), row(201 + t, 1)).joined(t, 0), 0);
            EDGE.due(t + 1 + " earlier, joined(" + t + ", 0)", lists(row(200, 1), row(199 - t, 1)).joined(t, 0), 0);
            EDGE.due(t + 1 + " later, its partner", lists(row(200, 1), row(201 + t, 1)).joined(t, 10), NONE);
        }
        EDGE.due("another PROP", lists(row(200, 1), row(200, 2)).joined(99, 0), 0);
        EDGE.due("PROP 7", lists(row(200, 7), row(200, 7)).joined(0, 0), 1);
        EDGE.due("PROP 0", lists(row(0, 0), row(0, 0)).joined(0, 0), 1);
        EDGE.due("as far as may be", lists(row(0, 0), row(499, 0)).joined(99, 0), 0);
    }

    private static void joinedOfNone() {
        EDGE.words(36, "how many pairs (what 0), entries of LIST 0 alone (1), of LIST 1 alone (2)");
        int[][] due = {{0, 0, 0}, {0, 2, 0}, {0, 0, 3}, {2, 0, 1}};
        int[][] two = row(5, 1, 9, 1);
        int[][] three = row(5, 1, 9, 1, 9, 2);
        StepsByHand[] all = {new StepsByHand(), lists(two, row()), lists(row(), three), lists(two, three)};
        for (int i = 0; i < 4; i++) {
            for (int what = 0; what < 3; what++) EDGE.due("lists " + i + ": joined(0, " + what + ")", all[i].joined(0, what), due[i][what]);
        }
        EDGE.due("LIST 1 is empty: the partner of entry 1", all[1].joined(99, 11), NONE);
        StepsByHand full = Room.full();
        EDGE.due("12 of 12", full.joined(0, 0), 12);
        EDGE.due("12 of 12, alone", full.joined(0, 1) + full.joined(0, 2), 0);
        for (int i = 0; i < 12; i++) EDGE.due("12 of 12, joined(0, " + (10 + i) + ")", full.joined(0, 10 + i), i);
        EDGE.due("12 of 12, none of them far away", full.joined(99, 0), 12);
        unlikeCounts();
    }

    private static void unlikeCounts() {
        for (int zero = 0; zero <= 12; zero++) {
            for (int one = 0; one <= 12; one++) {
                StepsByHand x = Room.full();
                // What was in the lists before they were torn is no entry any more.
                x.tear();
                for (int i = 0; i < zero; i++) x.entry(0, i, 5);
                for (int i = 0; i < one; i++) x.entry(1, 20 + i, 5);
                String of = " of " + zero + " and " + one;
                int pairs = Math.min(zero, one);
                EDGE.due("joined(99, 0)" + of, x.joined(99, 0), pairs);
                EDGE.due("joined(99, 1)" + of, x.joined(99, 1), zero - pairs);
                EDGE.due("joined(99, 2)" + of, x.joined(99, 2), one - pairs);
                for (int i = 0; i < zero; i++) EDGE.due("joined(99, " + (10 + i) + ")" + of, x.joined(99, 10 + i), i < one ? i : NONE);
                EDGE.due("joined(0, 0)" + of, x.joined(0, 0), 0);
            }
        }
    }

    private static void joinedInOrder() {
        EDGE.words(36, "the most pairs of entries, in the same order in both");
        StepsByHand crossed = lists(row(10, 1, 11, 2), row(10, 2, 11, 1));
        EDGE.due("crossed: how many", crossed.joined(9, 0), 1);
        EDGE.due("crossed: of entry 0", crossed.joined(9, 10), 1);
        EDGE.due("crossed: of entry 1", crossed.joined(9, 11), NONE);
        StepsByHand most = lists(row(10, 1, 11, 2, 12, 3), row(10, 2, 11, 3, 12, 1));
        EDGE.due("entry 0 stays alone for the most: how many", most.joined(9, 0), 2);
        EDGE.due("entry 0 stays alone for the most: of entry 0", most.joined(9, 10), NONE);
        EDGE.due("entry 0 stays alone for the most: of entry 1", most.joined(9, 11), 0);
        EDGE.due("entry 0 stays alone for the most: of entry 2", most.joined(9, 12), 1);
        EDGE.due("each entry once", lists(row(10, 1, 10, 1), row(10, 1)).joined(0, 0), 1);
    }

    private static void joinedPartners() {
        EDGE.words(36, "entry 0 of LIST 0 has the least partner it can have (none behind all), then entry 1, and so on");
        StepsByHand one = lists(row(10, 1, 10, 1), row(10, 1));
        EDGE.due("some partner ahead of none: of entry 0", one.joined(0, 10), 0);
        EDGE.due("some partner ahead of none: of entry 1", one.joined(0, 11), NONE);
        StepsByHand many = lists(row(10, 1, 10, 1), row(9, 1, 10, 1, 10, 1, 11, 1));
        EDGE.due("the least: of entry 0", many.joined(1, 10), 0);
        EDGE.due("the least behind it: of entry 1", many.joined(1, 11), 1);
        EDGE.due("within 0: of entry 0", many.joined(0, 10), 1);
        EDGE.due("within 0: of entry 1", many.joined(0, 11), 2);
        StepsByHand few = lists(row(10, 1, 20, 2, 30, 1), row(10, 1, 30, 1, 30, 1));
        EDGE.due("none in the midst: of entry 1", few.joined(99, 11), NONE);
        EDGE.due("none in the midst: of entry 2", few.joined(99, 12), 1);
        EDGE.words(36, "10 and i: the partner of entry i of LIST 0 (NONE: none). BAD: also an entry that there is not");
        EDGE.due("joined(0, 12) of 3", few.joined(0, 12), 1);
        EDGE.due("joined(0, 13) of 3", few.joined(0, 13), BAD);
        EDGE.due("joined(0, 10) of none", lists(row(), row(1, 1)).joined(0, 10), BAD);
    }

    private static void joinedRefused() {
        EDGE.words(36, "BAD: within t FRAMES (0 to 99)");
        EDGE.from(Room::some);
        EDGE.outside("joined(#, 0)", 0, 99, BAD, (x, v) -> x.joined(v, 0));
        EDGE.outside("joined(#, 10)", 0, 99, BAD, (x, v) -> x.joined(v, 10));
        EDGE.words(36, "BAD: a number is not as told, an entry that there is not");
        EDGE.outside("joined(0, #) of 2", 0, 11, BAD, (x, v) -> x.joined(0, v));
        for (int what = 3; what <= 9; what++) {
            int asked = what;
            EDGE.refused("joined(0, " + what + ")", BAD, x -> x.joined(0, asked));
        }
        EDGE.from(Room::full);
        EDGE.outside("joined(0, #) of 12", 0, 21, BAD, (x, v) -> x.joined(0, v));
        EDGE.from(StepsByHand::new);
        EDGE.outside("joined(0, #) of none", 0, 2, BAD, (x, v) -> x.joined(0, v));
        EDGE.refused("joined(0, 10) of none", BAD, x -> x.joined(0, 10));
    }
}
