/** A reel's sounds made anew by hand: see ../shared/DOC.md for what each call promises. */
public final class StepsByHand {
    public static final int BAD = -1, STATE = -2, FULL = -3, NONE = -4;

    private static final int FRAMES = 500;
    private static final int MOST_PROPS = 8;
    private static final int MOST_CUES = 16;
    private static final int MOST_SPANS = 8;
    private static final int LONGEST_CUE = 60;
    private static final int LOUDEST = 9;
    private static final int MOST_PLANNED = 9;
    private static final int MOST_WALKERS = 3;

    private static final int FAULT_TOKEN = 1, FAULT_PLACE = 2, FAULT_BOUNDS = 3, FAULT_AGAIN = 4, FAULT_MANY = 5;
    private static final int TORN_NULL = 1, TORN_INDEX = 2, TORN_CAST = 3, TORN_SIZE = 4;

    private final Tape tape = new Tape();
    private final Parser parser = new Parser();
    private final Planner planner = new Planner();
    private final Takes takes = new Takes();
    private final Mix mix = new Mix();
    private final NewReel newReel = new NewReel();
    private final EarLists lists = new EarLists();
    private final Sheets sheets = new Sheets();
    // A text that is refused must leave what was told, so it is read into the spare one and the two change places.
    private Reel reel = new Reel();
    private Reel spare = new Reel();
    private int textFault = 0;
    private int readFault = 0;

    public StepsByHand() {
    }

    // ---- the text, cues

    public int feed(long v) {
        if (!tape.hasRoom()) return FULL;
        return tape.append(v);
    }

    public int end(int n) {
        if (n < 0 || n > tape.length) return BAD;
        int had = tape.length;
        tape.length = n;
        return had;
    }

    public int text() {
        parser.parse(tape.bytes, tape.length, spare);
        tape.length = 0;
        textFault = parser.faultKind;
        if (textFault != 0) return -10 - parser.faultPlace;
        Reel old = reel;
        reel = spare;
        spare = old;
        planner.forget();
        return parser.lines;
    }

    public int fault() {
        return textFault;
    }

    public int prop(int p, int what) {
        if (!reel.hasProp(p)) return BAD;
        switch (what) {
            case 0: return reel.trays[p];
            case 1: return reel.reaches[p];
            default: return BAD;
        }
    }

    public int cue(int c, int what) {
        if (!reel.hasCue(c)) return BAD;
        switch (what) {
            case 0: return reel.begins[c];
            case 1: return reel.lengths[c];
            case 2: return reel.propOf[c];
            case 3: return reel.louds[c];
            case 4: return reel.talks[c];
            default: return BAD;
        }
    }

    public int rule(int what) {
        switch (what) {
            case 0: return reel.walkers;
            case 1: return reel.move;
            case 2: return reel.tail;
            case 3: return reel.most;
            default: return BAD;
        }
    }

    public int shift(int c, int f) {
        if (!reel.hasCue(c) || !spanFits(f, reel.lengths[c])) return BAD;
        int was = reel.begins[c];
        reel.begins[c] = f;
        planner.forget();
        return was;
    }

    // ---- passes

    public int behind(int a, int b) {
        if (!reel.hasCue(a) || !reel.hasCue(b)) return BAD;
        return reel.canFollow(a, b) ? 1 : 0;
    }

    public int beside(int c) {
        if (!reel.hasCue(c)) return BAD;
        int bits = 0;
        for (int other = 0; other < reel.cueCount; other++) {
            if (other != c && reel.overlap(c, other)) bits |= 1 << other;
        }
        return bits;
    }

    public int passes(int set, int what) {
        if (!canBePlanned(set) || what < 0 || what > 2) return BAD;
        if (what == 2) return planner.bound(reel, set);
        planner.prepare(reel, set);
        return what == 0 ? planner.passCount : planner.going(reel);
    }

    public int plan(int set, int c, int what) {
        if (!canBePlanned(set) || what < 0 || what > 1) return BAD;
        if (!reel.hasCue(c) || (set >> c & 1) == 0) return BAD;
        planner.prepare(reel, set);
        return what == 0 ? planner.passOf(c) : planner.walkerOf(c);
    }

    public int does(int set, int pass, int walker) {
        if (!canBePlanned(set) || pass < 0 || walker < 0 || walker >= reel.walkers) return BAD;
        planner.prepare(reel, set);
        if (pass >= planner.passCount) return BAD;
        return planner.cuesOf(pass, walker);
    }

    private boolean canBePlanned(int set) {
        return reel.holdsCues(set) && Integer.bitCount(set) <= MOST_PLANNED;
    }

    // ---- hits

    public int hit(int side, int f) {
        if (side < 0 || side > 1 || !isFrame(f) || !takes.isLater(side, f)) return BAD;
        if (takes.isFull(side)) return FULL;
        return takes.append(side, f);
    }

    public int wipe() {
        return takes.clear();
    }

    public int miss(int d) {
        if (d < -Takes.FARTHEST || d > Takes.FARTHEST) return BAD;
        if (!takes.isPaired()) return STATE;
        return takes.missBy(d);
    }

    public int slip(int what) {
        if (what < 0 || what > 1) return -1000;
        if (!takes.isPaired()) return -1002;
        int best = takes.bestMove();
        return what == 0 ? best : takes.missBy(best);
    }

    public int cuts(int c) {
        if (c < 0 || c > Takes.MOST_CUTS) return BAD;
        if (!takes.isPaired()) return STATE;
        takes.weighCuts(reel.tail);
        return takes.leastWith(c);
    }

    public int enough(int m) {
        if (m < 0 || m > 999) return BAD;
        if (!takes.isPaired()) return STATE;
        takes.weighCuts(reel.tail);
        for (int c = 0; c <= Takes.MOST_CUTS; c++) {
            if (takes.leastWith(c) <= m) return c;
        }
        return NONE;
    }

    // ---- what is heard

    public int speech(int f) {
        if (!isFrame(f)) return BAD;
        return reel.speechAt(f);
    }

    public int heard(int c, int what) {
        if (!reel.hasCue(c) || what < 0 || what > 1) return BAD;
        return what == 0 ? reel.heardFrames(c) : reel.firstHeard(c);
    }

    public int masked() {
        int bits = 0;
        for (int c = 0; c < reel.cueCount; c++) {
            if (reel.firstHeard(c) == NONE) bits |= 1 << c;
        }
        return bits;
    }

    public int level(int set, int f, int n) {
        if (!reel.holdsCues(set) || !isFrame(f) || n < 0 || n > LOUDEST) return BAD;
        return reel.levelOfSet(set, f, n);
    }

    public int clips(int set, int what) {
        if (!reel.holdsCues(set) || what < 0 || what > 3) return BAD;
        mix.sumUp(reel, set);
        switch (what) {
            case 0: return mix.framesAbove(reel.most);
            case 1: return mix.firstAbove(reel.most);
            case 2: return mix.greatest();
            default: return mix.firstAbove(mix.greatest() - 1);
        }
    }

    public int lower(int set) {
        if (!reel.holdsCues(set)) return BAD;
        for (int n = 0; n < LOUDEST; n++) {
            if (reel.peakOfSet(set, n) <= reel.most) return n;
        }
        return LOUDEST;
    }

    // ---- props

    public int carry(int set, int what) {
        if (!reel.holdsCues(set) || what < 0 || what > 1) return BAD;
        int load = reel.leastLoad(set);
        return what == 0 ? Integer.bitCount(load) : load;
    }

    public int without(int set, int props) {
        if (!reel.holdsCues(set) || !reel.holdsProps(props)) return BAD;
        return reel.notDoneWith(set, props);
    }

    public int foreign(int props, int what) {
        if (!reel.holdsProps(props) || what < 0 || what > 1) return BAD;
        int wanted = 0;
        for (int c = 0; c < reel.cueCount; c++) {
            if (reel.talks[c] == 1 && reel.firstHeard(c) != NONE) wanted |= 1 << c;
        }
        return what == 0 ? wanted : reel.notDoneWith(wanted, props);
    }

    // ---- the reel cut anew

    public int piece(int f, int n) {
        if (n < 1 || !spanFits(f, n)) return BAD;
        if (newReel.isFull()) return FULL;
        return newReel.append(f, n);
    }

    public int whole() {
        return newReel.clear();
    }

    public int anew(int what) {
        if (what < 0 || what > 3) return BAD;
        if (what == 0) return newReel.frames();
        int bits = 0;
        for (int c = 0; c < reel.cueCount; c++) {
            if (newReel.fateOf(reel.begins[c], reel.endOf(c)) == what) bits |= 1 << c;
        }
        return bits;
    }

    public int moved(int c) {
        if (!reel.hasCue(c)) return BAD;
        return newReel.placeOf(reel.begins[c], reel.endOf(c));
    }

    // ---- lists

    public int entry(int list, int f, int prop) {
        if (list < 0 || list > 1 || !isFrame(f) || prop < 0 || prop >= MOST_PROPS) return BAD;
        if (lists.isAhead(list, f)) return BAD;
        if (lists.isFull(list)) return FULL;
        return lists.append(list, f, prop);
    }

    public int tear() {
        return lists.clear();
    }

    public int joined(int t, int what) {
        if (t < 0 || t > 99 || what < 0) return BAD;
        boolean asksPartner = what >= 10 && what - 10 < lists.counts[0];
        if (what > 2 && !asksPartner) return BAD;
        int pairs = lists.pairUp(t);
        switch (what) {
            case 0: return pairs;
            case 1: return lists.counts[0] - pairs;
            case 2: return lists.counts[1] - pairs;
            default: return lists.partnerOf(what - 10, t);
        }
    }

    // ---- sheets

    public int sheet(int k, int lane, int n) {
        if (!sheets.hasSheet(k) || !sheets.hasLane(lane) || n > Sheets.MOST_CELLS) return BAD;
        if (n < 0) return -10 - TORN_SIZE;
        sheets.renew(k, lane, n);
        return 1;
    }

    public int lay(int k, int i, int v) {
        if (!sheets.hasSheet(k)) return BAD;
        if (sheets.isNothing(k)) return -10 - TORN_NULL;
        if (!sheets.hasCell(k, i)) return -10 - TORN_INDEX;
        sheets.put(k, i, v);
        return 1;
    }

    public int read(int k, int lane, int f, int n) {
        if (!sheets.hasSheet(k) || !sheets.hasLane(lane) || n < 0 || n > 10) return BAD;
        int found = 0;
        int came = 0;
        for (int i = 0; i < n; i++) {
            found = sheets.faultOf(k, lane, f, i);
            if (found != 0) break;
            int at = f + 4 * i;
            int begin = sheets.get(k, at);
            int length = sheets.get(k, at + 1);
            int prop = sheets.get(k, at + 2);
            int loud = sheets.get(k, at + 3);
            if (!reel.isCueAsTold(begin, length, prop, loud)) return -20 - i;
            // Until the count is raised below, what is put behind the last cue is no cue yet, so a refusal leaves nothing.
            if (!reel.putCue(reel.cueCount + i, begin, length, prop, loud)) return FULL;
            came++;
        }
        readFault = found;
        reel.cueCount += came;
        return came;
    }

    public int torn() {
        return readFault;
    }

    public int count(int what) {
        switch (what) {
            case 0: return reel.propCount;
            case 1: return reel.cueCount;
            case 2: return reel.spanCount;
            case 3: return takes.counts[0];
            case 4: return takes.counts[1];
            case 5: return newReel.pieceCount;
            case 6: return lists.counts[0];
            case 7: return lists.counts[1];
            case 8: return tape.length;
            case 9: return sheets.isNothing(0) ? NONE : sheets.sizes[0];
            default: return BAD;
        }
    }

    private static boolean isFrame(int f) {
        return f >= 0 && f < FRAMES;
    }

    private static boolean spanFits(int f, int n) {
        return isFrame(f) && n <= FRAMES - f;
    }

    /** The bytes that wait to be read as a text. */
    private static final class Tape {
        static final int MOST_BYTES = 400;
        final byte[] bytes = new byte[MOST_BYTES];
        int length = 0;

        boolean hasRoom() {
            return length >= 0 && length + 8 <= MOST_BYTES;
        }

        int append(long v) {
            if (!hasRoom()) return FULL;
            for (int i = 0; i < 8; i++) bytes[length + i] = (byte) (v >> (56 - 8 * i));
            length += 8;
            return length;
        }
    }

    /** What a text tells: props, cues, rules, speech. Its methods take cues and props that are there. */
    private static final class Reel {
        final int[] trays = new int[MOST_PROPS];
        final int[] standsFor = new int[MOST_PROPS];
        final int[] reaches = new int[MOST_PROPS];
        final int[] begins = new int[MOST_CUES];
        final int[] lengths = new int[MOST_CUES];
        final int[] propOf = new int[MOST_CUES];
        final int[] louds = new int[MOST_CUES];
        final int[] talks = new int[MOST_CUES];
        final int[] spanBegins = new int[MOST_SPANS];
        final int[] spanEnds = new int[MOST_SPANS];
        final int[] spanLouds = new int[MOST_SPANS];
        int propCount = 0;
        int cueCount = 0;
        int spanCount = 0;
        int walkers = 2;
        int move = 2;
        int tail = 1;
        int most = 99;

        void clear() {
            propCount = 0;
            cueCount = 0;
            spanCount = 0;
            walkers = 2;
            move = 2;
            tail = 1;
            most = 99;
        }

        boolean hasProp(int p) {
            return p >= 0 && p < propCount;
        }

        boolean hasCue(int c) {
            return c >= 0 && c < cueCount;
        }

        boolean holdsCues(int set) {
            return set >= 0 && set >> cueCount == 0;
        }

        boolean holdsProps(int set) {
            return set >= 0 && set >> propCount == 0;
        }

        void addProp(int tray) {
            if (propCount < 0 || propCount >= MOST_PROPS) return;
            trays[propCount] = tray;
            standsFor[propCount] = 0;
            propCount++;
        }

        void addSpan(int begin, int length, int loud) {
            if (spanCount < 0 || spanCount >= MOST_SPANS) return;
            spanBegins[spanCount] = begin;
            spanEnds[spanCount] = begin + length;
            spanLouds[spanCount] = loud;
            spanCount++;
        }

        boolean isCueAsTold(int begin, int length, int prop, int loud) {
            return length >= 1 && length <= LONGEST_CUE && spanFits(begin, length)
                && hasProp(prop) && loud >= 1 && loud <= LOUDEST;
        }

        boolean putCue(int c, int begin, int length, int prop, int loud) {
            if (c < 0 || c >= MOST_CUES) return false;
            begins[c] = begin;
            lengths[c] = length;
            propOf[c] = prop;
            louds[c] = loud;
            talks[c] = 0;
            return true;
        }

        /** Follows what is told from prop to prop, so that later questions are one look. */
        void closeStands() {
            for (int p = 0; p < propCount; p++) reaches[p] = standsFor[p] | 1 << p;
            for (int via = 0; via < propCount; via++) {
                for (int p = 0; p < propCount; p++) {
                    if ((reaches[p] >> via & 1) == 1) reaches[p] |= reaches[via];
                }
            }
        }

        int endOf(int c) {
            return begins[c] + lengths[c];
        }

        int trayOf(int c) {
            return hasProp(propOf[c]) ? trays[propOf[c]] : 0;
        }

        boolean overlap(int a, int b) {
            return begins[a] < endOf(b) && begins[b] < endOf(a);
        }

        boolean canFollow(int a, int b) {
            int way = trayOf(a) == trayOf(b) ? 0 : move;
            return begins[b] >= endOf(a) + way;
        }

        int speechAt(int f) {
            int loudest = 0;
            for (int s = 0; s < spanCount; s++) {
                if (spanBegins[s] <= f && f < spanEnds[s]) loudest = Math.max(loudest, spanLouds[s]);
            }
            return loudest;
        }

        int heardFrames(int c) {
            int frames = 0;
            for (int f = begins[c]; f < endOf(c); f++) {
                if (louds[c] > speechAt(f)) frames++;
            }
            return frames;
        }

        int firstHeard(int c) {
            for (int f = begins[c]; f < endOf(c); f++) {
                if (louds[c] > speechAt(f)) return f;
            }
            return NONE;
        }

        int levelOf(int c, int f, int n) {
            if (f < begins[c]) return 0;
            int loud = Math.max(0, louds[c] - n);
            int behindEnd = f - endOf(c);
            if (behindEnd < 0) return loud;
            return Math.max(0, loud - 1 - behindEnd / Math.max(1, tail));
        }

        int levelOfSet(int set, int f, int n) {
            int sum = 0;
            for (int c = 0; c < cueCount; c++) {
                if ((set >> c & 1) == 1) sum += levelOf(c, f, n);
            }
            return sum;
        }

        /** Levels only rise where a cue begins, so no other frame can be the loudest. */
        int peakOfSet(int set, int n) {
            int peak = 0;
            for (int c = 0; c < cueCount; c++) {
                if ((set >> c & 1) == 1) peak = Math.max(peak, levelOfSet(set, begins[c], n));
            }
            return peak;
        }

        int propsUsed(int set) {
            int used = 0;
            for (int c = 0; c < cueCount; c++) {
                if ((set >> c & 1) == 1) used |= 1 << propOf[c];
            }
            return used;
        }

        int reachedBy(int props) {
            int reached = 0;
            for (int p = 0; p < propCount; p++) {
                if ((props >> p & 1) == 1) reached |= reaches[p];
            }
            return reached;
        }

        int leastLoad(int set) {
            int used = propsUsed(set);
            int best = used;
            for (int load = 0; load < 1 << propCount; load++) {
                int size = Integer.bitCount(load);
                boolean better = size < Integer.bitCount(best) || size == Integer.bitCount(best) && load < best;
                if (better && (used & ~reachedBy(load)) == 0) best = load;
            }
            return best;
        }

        int notDoneWith(int set, int props) {
            int reached = reachedBy(props);
            int bits = 0;
            for (int c = 0; c < cueCount; c++) {
                if ((set >> c & 1) == 1 && (reached >> propOf[c] & 1) == 0) bits |= 1 << c;
            }
            return bits;
        }
    }

    /** Reads a text token by token and stops at the first fault. */
    private static final class Parser {
        static final int END = 0, NAME = 1, NUMBER = 2, SIGN = 3;
        static final int PROP = 0, STANDS = 1, CUE = 2, WALKERS = 3, MOVE = 4, TAIL = 5, MOST = 6, SPEECH = 7;

        byte[] bytes = null;
        Reel into = null;
        int length = 0;
        int place = 0;
        int kind = END;
        int start = 0;
        int value = 0;
        int toldRules = 0;
        int lines = 0;
        int faultKind = 0;
        int faultPlace = 0;

        void parse(byte[] tapeBytes, int tapeLength, Reel target) {
            bytes = tapeBytes;
            length = Math.min(tapeLength, tapeBytes.length);
            into = target;
            into.clear();
            place = 0;
            toldRules = 0;
            lines = 0;
            faultKind = 0;
            faultPlace = 0;
            // Each line takes at least one byte, so there are never more lines than bytes.
            for (int guard = 0; guard <= length; guard++) {
                if (!nextToken() || kind == END) break;
                if (!parseLine()) break;
                lines++;
            }
            if (faultKind == 0) into.closeStands();
        }

        boolean fail(int fault, int at) {
            faultKind = fault;
            faultPlace = at;
            return false;
        }

        boolean nextToken() {
            while (place < length && bytes[place] == ' ') place++;
            start = place;
            if (place >= length) {
                kind = END;
                return true;
            }
            byte b = bytes[place];
            if (isLetter(b)) {
                kind = NAME;
                while (place < length && isLetter(bytes[place])) place++;
                return true;
            }
            if (isFigure(b)) return numberToken();
            if (b != ';') return fail(FAULT_TOKEN, start);
            kind = SIGN;
            place++;
            return true;
        }

        boolean numberToken() {
            kind = NUMBER;
            value = 0;
            while (place < length && isFigure(bytes[place])) {
                if (place - start >= 3) return fail(FAULT_TOKEN, start);
                value = value * 10 + (bytes[place] - '0');
                place++;
            }
            return true;
        }

        static boolean isLetter(byte b) {
            return b >= 'a' && b <= 'z';
        }

        static boolean isFigure(byte b) {
            return b >= '0' && b <= '9';
        }

        boolean isName(String word) {
            if (kind != NAME || place - start != word.length()) return false;
            for (int i = 0; i < word.length(); i++) {
                if (bytes[start + i] != word.charAt(i)) return false;
            }
            return true;
        }

        int lineKind() {
            if (isName("prop")) return PROP;
            if (isName("stands")) return STANDS;
            if (isName("cue")) return CUE;
            if (isName("walkers")) return WALKERS;
            if (isName("move")) return MOVE;
            if (isName("tail")) return TAIL;
            if (isName("most")) return MOST;
            if (isName("speech")) return SPEECH;
            return NONE;
        }

        boolean parseLine() {
            int line = lineKind();
            switch (line) {
                case PROP: return into.propCount < MOST_PROPS ? propLine() : fail(FAULT_MANY, start);
                case STANDS: return standsLine();
                case CUE: return into.cueCount < MOST_CUES ? cueLine() : fail(FAULT_MANY, start);
                case SPEECH: return into.spanCount < MOST_SPANS ? speechLine() : fail(FAULT_MANY, start);
                case WALKERS:
                case MOVE:
                case TAIL:
                case MOST: return ruleLine(line);
                default: return fail(FAULT_PLACE, start);
            }
        }

        boolean numberWithin(int low, int high) {
            if (!nextToken()) return false;
            if (kind != NUMBER) return fail(FAULT_PLACE, start);
            if (value < low || value > high) return fail(FAULT_BOUNDS, start);
            return true;
        }

        boolean lineEnd() {
            if (!nextToken()) return false;
            return kind == SIGN || fail(FAULT_PLACE, start);
        }

        boolean propLine() {
            if (!numberWithin(0, 5)) return false;
            into.addProp(value);
            return lineEnd();
        }

        boolean standsLine() {
            if (!numberWithin(0, into.propCount - 1)) return false;
            int one = value;
            if (!numberWithin(0, into.propCount - 1)) return false;
            if (value == one) return fail(FAULT_BOUNDS, start);
            if ((into.standsFor[one] >> value & 1) == 1) return fail(FAULT_AGAIN, start);
            into.standsFor[one] |= 1 << value;
            return lineEnd();
        }

        boolean cueLine() {
            if (!numberWithin(0, FRAMES - 1)) return false;
            int begin = value;
            if (!numberWithin(1, Math.min(LONGEST_CUE, FRAMES - begin))) return false;
            int howLong = value;
            if (!numberWithin(0, into.propCount - 1)) return false;
            int withProp = value;
            if (!numberWithin(1, LOUDEST)) return false;
            int c = into.cueCount;
            if (!into.putCue(c, begin, howLong, withProp, value)) return fail(FAULT_MANY, start);
            into.cueCount++;
            if (!nextToken()) return false;
            if (!isName("talk")) return kind == SIGN || fail(FAULT_PLACE, start);
            into.talks[c] = 1;
            return lineEnd();
        }

        boolean speechLine() {
            if (!numberWithin(0, FRAMES - 1)) return false;
            int begin = value;
            if (!numberWithin(1, FRAMES - begin)) return false;
            int howLong = value;
            if (!numberWithin(1, LOUDEST)) return false;
            into.addSpan(begin, howLong, value);
            return lineEnd();
        }

        boolean ruleLine(int line) {
            if ((toldRules >> line & 1) == 1) return fail(FAULT_AGAIN, start);
            toldRules |= 1 << line;
            int low = line == MOVE ? 0 : 1;
            int high = line == WALKERS ? MOST_WALKERS : line == MOST ? 99 : 9;
            if (!numberWithin(low, high)) return false;
            if (line == WALKERS) into.walkers = value;
            if (line == MOVE) into.move = value;
            if (line == TAIL) into.tail = value;
            if (line == MOST) into.most = value;
            return lineEnd();
        }
    }

    /** Finds the fewest passes for a set of cues and keeps the latest plan, as it is asked for cue by cue. */
    private static final class Planner {
        final int[] order = new int[MOST_PLANNED];
        // By places in the order: bits of later ones that the same walker can still do, that the same pass can not bear.
        final int[] followers = new int[MOST_PLANNED];
        final int[] clashes = new int[MOST_PLANNED];
        final int[] slotOf = new int[MOST_PLANNED];
        // By pass and walker, and by pass: bits of those that it can take still.
        final int[] walkerTakes = new int[MOST_PLANNED * MOST_WALKERS];
        final int[] passTakes = new int[MOST_PLANNED];
        int size = 0;
        int walkers = 1;
        int passCount = 0;
        int plannedSet = NONE;

        void forget() {
            plannedSet = NONE;
        }

        void prepare(Reel reel, int set) {
            if (set == plannedSet) return;
            sortCues(reel, set);
            compareCues(reel);
            walkers = Math.min(MOST_WALKERS, reel.walkers);
            passCount = bound(reel, set);
            while (passCount < size && !findPlan()) passCount++;
            if (passCount >= size) findPlan();
            plannedSet = set;
        }

        void sortCues(Reel reel, int set) {
            size = 0;
            for (int c = 0; c < reel.cueCount; c++) {
                if ((set >> c & 1) == 0 || size >= MOST_PLANNED) continue;
                int at = size;
                while (at > 0 && reel.begins[order[at - 1]] > reel.begins[c]) {
                    order[at] = order[at - 1];
                    at--;
                }
                order[at] = c;
                size++;
            }
        }

        void compareCues(Reel reel) {
            for (int i = 0; i < size; i++) {
                followers[i] = 0;
                clashes[i] = 0;
                for (int j = i + 1; j < size; j++) {
                    int a = order[i];
                    int b = order[j];
                    if (reel.canFollow(a, b)) followers[i] |= 1 << j;
                    if (reel.trayOf(a) == reel.trayOf(b) && reel.overlap(a, b)) clashes[i] |= 1 << j;
                }
            }
        }

        boolean findPlan() {
            for (int slot = 0; slot < MOST_PLANNED * MOST_WALKERS; slot++) walkerTakes[slot] = -1;
            for (int pass = 0; pass < MOST_PLANNED; pass++) passTakes[pass] = -1;
            return settle(0);
        }

        /** The first way found is THE PLAN, as passes and walkers are tried from the least on. */
        private boolean settle(int i) {
            if (i >= size) return true;
            for (int pass = 0; pass < passCount; pass++) {
                boolean wasEmpty = walkerTakes[pass * MOST_WALKERS] == -1;
                if ((passTakes[pass] >> i & 1) == 1 && settleInPass(i, pass)) return true;
                // Passes that are still empty are all alike: what failed in one fails in the next.
                if (wasEmpty) return false;
            }
            return false;
        }

        private boolean settleInPass(int i, int pass) {
            int passBefore = passTakes[pass];
            for (int walker = 0; walker < walkers; walker++) {
                int slot = pass * MOST_WALKERS + walker;
                int before = walkerTakes[slot];
                if ((before >> i & 1) == 1) {
                    slotOf[i] = slot;
                    walkerTakes[slot] = followers[i];
                    passTakes[pass] = passBefore & ~clashes[i];
                    if (settle(i + 1)) return true;
                    walkerTakes[slot] = before;
                    passTakes[pass] = passBefore;
                }
                if (before == -1) return false;
            }
            return false;
        }

        int placeOf(int c) {
            for (int i = 0; i < size; i++) {
                if (order[i] == c) return i;
            }
            return 0;
        }

        int passOf(int c) {
            return slotOf[placeOf(c)] / MOST_WALKERS;
        }

        int walkerOf(int c) {
            return slotOf[placeOf(c)] % MOST_WALKERS;
        }

        int cuesOf(int pass, int walker) {
            int bits = 0;
            for (int i = 0; i < size; i++) {
                if (slotOf[i] == pass * MOST_WALKERS + walker) bits |= 1 << order[i];
            }
            return bits;
        }

        int going(Reel reel) {
            int changes = 0;
            for (int i = 0; i < size; i++) {
                int j = i + 1;
                while (j < size && slotOf[j] != slotOf[i]) j++;
                if (j < size && reel.trayOf(order[i]) != reel.trayOf(order[j])) changes++;
            }
            return changes;
        }

        /** What sounds at once only grows where a cue begins, so no other frame is looked at. */
        int bound(Reel reel, int set) {
            int most = 0;
            for (int c = 0; c < reel.cueCount; c++) {
                if ((set >> c & 1) == 0) continue;
                int sounding = 0;
                int onTray = 0;
                for (int other = 0; other < reel.cueCount; other++) {
                    boolean sounds = reel.begins[other] <= reel.begins[c] && reel.begins[c] < reel.endOf(other);
                    if ((set >> other & 1) == 0 || !sounds) continue;
                    sounding++;
                    if (reel.trayOf(other) == reel.trayOf(c)) onTray++;
                }
                int byWalkers = Math.max(1, reel.walkers);
                most = Math.max(most, Math.max(onTray, (sounding + byWalkers - 1) / byWalkers));
            }
            return most;
        }
    }

    /** Hits of the picture (side 0) and of the take (side 1). */
    private static final class Takes {
        static final int MOST_HITS = 12;
        static final int FARTHEST = 20;
        static final int MOVES = 41;
        static final int MOST_CUTS = 3;
        static final int UNREACHED = 1000000;

        final int[] picture = new int[MOST_HITS];
        final int[] take = new int[MOST_HITS];
        final int[] counts = new int[2];
        // By cuts so far and move of the latest part: the least miss of the hits up to the one looked at.
        final int[] least = new int[(MOST_CUTS + 1) * MOVES];

        int[] hitsOf(int side) {
            return side == 0 ? picture : take;
        }

        boolean isLater(int side, int f) {
            int n = counts[side];
            return n <= 0 || n > MOST_HITS || f > hitsOf(side)[n - 1];
        }

        boolean isFull(int side) {
            return counts[side] >= MOST_HITS;
        }

        int append(int side, int f) {
            if (isFull(side)) return FULL;
            hitsOf(side)[counts[side]] = f;
            counts[side]++;
            return counts[side];
        }

        int clear() {
            int had = counts[0] + counts[1];
            counts[0] = 0;
            counts[1] = 0;
            return had;
        }

        boolean isPaired() {
            return counts[0] == counts[1] && counts[0] > 0;
        }

        int missOfHit(int k, int d) {
            return Math.abs(picture[k] - take[k] - d);
        }

        int missBy(int d) {
            int sum = 0;
            for (int k = 0; k < counts[0]; k++) sum += missOfHit(k, d);
            return sum;
        }

        int bestMove() {
            int best = 0;
            int bestMiss = missBy(0);
            for (int far = 1; far <= FARTHEST; far++) {
                for (int sign = -1; sign <= 1; sign += 2) {
                    int miss = missBy(sign * far);
                    if (miss < bestMiss) {
                        best = sign * far;
                        bestMiss = miss;
                    }
                }
            }
            return best;
        }

        void weighCuts(int tail) {
            for (int at = 0; at < least.length; at++) {
                least[at] = at < MOVES ? missOfHit(0, at - FARTHEST) : UNREACHED;
            }
            for (int k = 1; k < counts[0]; k++) {
                int room = take[k] - take[k - 1] - tail - 1;
                // From most cuts down, as each row is made of the one with a cut less before that goes on.
                for (int made = MOST_CUTS; made >= 0; made--) weighHit(k, made, room);
            }
        }

        /** A part moved by d may stand behind one that was moved by d and room at most; below 0 there is no cut. */
        void weighHit(int k, int made, int room) {
            int row = made * MOVES;
            int ahead = UNREACHED;
            int seen = 0;
            for (int d = 0; d < MOVES; d++) {
                if (made > 0 && room >= 0) {
                    while (seen < MOVES && seen <= d + room) {
                        ahead = Math.min(ahead, least[row - MOVES + seen]);
                        seen++;
                    }
                }
                int sum = Math.min(least[row + d], ahead) + missOfHit(k, d - FARTHEST);
                least[row + d] = Math.min(UNREACHED, sum);
            }
        }

        int leastWith(int mostCuts) {
            int best = UNREACHED;
            for (int at = 0; at < (mostCuts + 1) * MOVES && at < least.length; at++) best = Math.min(best, least[at]);
            return best;
        }
    }

    /** The levels of a set, frame by frame. */
    private static final class Mix {
        final int[] sums = new int[FRAMES];

        void sumUp(Reel reel, int set) {
            for (int f = 0; f < FRAMES; f++) sums[f] = 0;
            for (int c = 0; c < reel.cueCount; c++) {
                if ((set >> c & 1) == 1) addCue(reel, c);
            }
        }

        void addCue(Reel reel, int c) {
            for (int f = reel.begins[c]; f < FRAMES; f++) {
                int now = reel.levelOf(c, f, 0);
                if (now == 0) return;
                sums[f] += now;
            }
        }

        int framesAbove(int most) {
            int frames = 0;
            for (int f = 0; f < FRAMES; f++) {
                if (sums[f] > most) frames++;
            }
            return frames;
        }

        int firstAbove(int most) {
            for (int f = 0; f < FRAMES; f++) {
                if (sums[f] > most) return f;
            }
            return NONE;
        }

        int greatest() {
            int best = 0;
            for (int f = 0; f < FRAMES; f++) best = Math.max(best, sums[f]);
            return best;
        }
    }

    /** Pieces of the old reel that, one behind another, are the new one. */
    private static final class NewReel {
        static final int MOST_PIECES = 8;
        static final int MOVES = 1, AGAIN = 2, GONE = 3;

        final int[] begins = new int[MOST_PIECES];
        final int[] lengths = new int[MOST_PIECES];
        int pieceCount = 0;

        boolean isFull() {
            return pieceCount >= MOST_PIECES;
        }

        int append(int f, int n) {
            if (isFull()) return FULL;
            begins[pieceCount] = f;
            lengths[pieceCount] = n;
            pieceCount++;
            return pieceCount;
        }

        int clear() {
            int had = pieceCount;
            pieceCount = 0;
            return had;
        }

        int frames() {
            int sum = 0;
            for (int p = 0; p < pieceCount; p++) sum += lengths[p];
            return sum;
        }

        int placeOf(int begin, int end) {
            int ahead = 0;
            for (int p = 0; p < pieceCount; p++) {
                if (begins[p] <= begin && end <= begins[p] + lengths[p]) return ahead + begin - begins[p];
                ahead += lengths[p];
            }
            return NONE;
        }

        int fateOf(int begin, int end) {
            if (placeOf(begin, end) != NONE) return MOVES;
            for (int p = 0; p < pieceCount; p++) {
                if (begins[p] < end && begin < begins[p] + lengths[p]) return AGAIN;
            }
            return GONE;
        }
    }

    /** Two lists made by ear, to be joined. */
    private static final class EarLists {
        static final int MOST_ENTRIES = 12;
        static final int SIDE = MOST_ENTRIES + 1;

        final int[] frames = new int[2 * MOST_ENTRIES];
        final int[] props = new int[2 * MOST_ENTRIES];
        final int[] counts = new int[2];
        // By entries from which on both lists are still free: the most pairs.
        final int[] pairs = new int[SIDE * SIDE];

        boolean isAhead(int list, int f) {
            int n = counts[list];
            return n > 0 && n <= MOST_ENTRIES && f < frames[list * MOST_ENTRIES + n - 1];
        }

        boolean isFull(int list) {
            return counts[list] >= MOST_ENTRIES;
        }

        int append(int list, int f, int prop) {
            if (isFull(list)) return FULL;
            int at = list * MOST_ENTRIES + counts[list];
            frames[at] = f;
            props[at] = prop;
            counts[list]++;
            return counts[list];
        }

        int clear() {
            int had = counts[0] + counts[1];
            counts[0] = 0;
            counts[1] = 0;
            return had;
        }

        boolean fit(int i, int j, int t) {
            int other = MOST_ENTRIES + j;
            return props[i] == props[other] && Math.abs(frames[i] - frames[other]) <= t;
        }

        int pairUp(int t) {
            for (int i = counts[0]; i >= 0; i--) {
                for (int j = counts[1]; j >= 0; j--) {
                    int best = 0;
                    if (i < counts[0]) best = Math.max(best, pairs[(i + 1) * SIDE + j]);
                    if (j < counts[1]) best = Math.max(best, pairs[i * SIDE + j + 1]);
                    boolean both = i < counts[0] && j < counts[1];
                    if (both && fit(i, j, t)) best = Math.max(best, 1 + pairs[(i + 1) * SIDE + j + 1]);
                    pairs[i * SIDE + j] = best;
                }
            }
            return pairs[0];
        }

        /** Goes along the entries by what pairUp has found for the same t. */
        int partnerOf(int entry, int t) {
            int free = 0;
            int partner = NONE;
            for (int i = 0; i <= entry && i < counts[0]; i++) {
                partner = leastPartner(i, free, t);
                if (partner != NONE) free = partner + 1;
            }
            return partner;
        }

        int leastPartner(int i, int free, int t) {
            for (int j = free; j < counts[1]; j++) {
                if (fit(i, j, t) && 1 + pairs[(i + 1) * SIDE + j + 1] == pairs[i * SIDE + free]) return j;
            }
            return NONE;
        }
    }

    /** Rows of cells of three widths, of which each may be nothing. */
    private static final class Sheets {
        static final int MOST_SHEETS = 4;
        static final int MOST_CELLS = 40;
        static final int BYTES = 0, SHORTS = 1, INTS = 2;
        static final int NOTHING = -1;

        final int[] cells = new int[MOST_SHEETS * MOST_CELLS];
        final int[] lanes = new int[MOST_SHEETS];
        final int[] sizes = {NOTHING, NOTHING, NOTHING, NOTHING};

        boolean hasSheet(int k) {
            return k >= 0 && k < MOST_SHEETS;
        }

        boolean hasLane(int lane) {
            return lane >= BYTES && lane <= INTS;
        }

        boolean isNothing(int k) {
            return sizes[k] == NOTHING;
        }

        boolean hasCell(int k, int i) {
            return i >= 0 && i < sizes[k];
        }

        void renew(int k, int lane, int n) {
            lanes[k] = lane;
            sizes[k] = n;
            for (int i = 0; i < n && i < MOST_CELLS; i++) cells[k * MOST_CELLS + i] = 0;
        }

        void put(int k, int i, int v) {
            if (!hasCell(k, i)) return;
            int kept = lanes[k] == BYTES ? (byte) v : lanes[k] == SHORTS ? (short) v : v;
            cells[k * MOST_CELLS + i] = kept;
        }

        int get(int k, int i) {
            return hasCell(k, i) ? cells[k * MOST_CELLS + i] : 0;
        }

        /** What the machine would find on the way to the four cells of cue i, from cell f on; 0 if they are whole. */
        int faultOf(int k, int lane, int f, int i) {
            // A cast of nothing is no fault of the machine's: only its use is.
            if (isNothing(k)) return TORN_NULL;
            if (lanes[k] != lane) return TORN_CAST;
            // A beginning near the greatest int would wrap around behind the cells.
            if (f < 0 || f > MOST_CELLS) return TORN_INDEX;
            return hasCell(k, f + 4 * i + 3) ? 0 : TORN_INDEX;
        }
    }
}
