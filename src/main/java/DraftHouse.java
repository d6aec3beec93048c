import java.util.Arrays;

/** Woven cloth as a product of threading, tie-up and treadling; see README.md and the document. */
public final class DraftHouse {
    public static final int NONE = -1;

    /** The answer for others where NONE is itself a good answer. */
    private static final int OTHER = -2;

    private static final int MOST_THREADS = 48;
    private static final int SHAFTS = 16;
    private static final int TREADLES = 16;
    private static final int SETS = 65536;
    private static final int COLOURS = 10;
    private static final int MOST_TIMES = 400;
    private static final int MOST_ENTRIES = 2000;
    private static final int MOST_BYTES = 300;
    private static final int BYTES_FED = 20;

    /** Each thing that can be told has one slot: these are the first slots of each kind. */
    private static final int SHAFT_OF_END = 0;
    private static final int TIE_OF_TREADLE = SHAFT_OF_END + MOST_THREADS;
    private static final int TREAD_OF_PICK = TIE_OF_TREADLE + TREADLES;
    private static final int COLOUR_OF_END = TREAD_OF_PICK + MOST_THREADS;
    private static final int COLOUR_OF_PICK = COLOUR_OF_END + MOST_THREADS;
    private static final int SLOTS = COLOUR_OF_PICK + MOST_THREADS;

    private final int wide;
    private final int high;
    private final Ledger ledger;
    private final Cloth cloth;
    private final Tape tape;
    private final Reader reader;
    private final Runs runs;
    private final Planes planes;
    private final Layering layering;
    private final Covering covering;
    private final Sight sight;
    private final Mending mending;

    public DraftHouse(int wide, int high) {
        this.wide = Math.max(1, Math.min(MOST_THREADS, wide));
        this.high = Math.max(1, Math.min(MOST_THREADS, high));
        ledger = new Ledger();
        cloth = new Cloth(ledger, this.wide, this.high);
        tape = new Tape();
        reader = new Reader(tape, ledger, this.wide, this.high);
        runs = new Runs(cloth);
        planes = new Planes(cloth, ledger);
        layering = new Layering(cloth);
        covering = new Covering(cloth);
        sight = new Sight(cloth);
        mending = new Mending(cloth, ledger, sight);
    }

    public int thread(int end, int shaft) {
        if (!isEnd(end) || shaft < NONE || shaft >= SHAFTS) {
            return NONE;
        }
        return ledger.tellOne(SHAFT_OF_END + end, shaft);
    }

    public int tie(int treadle, int shafts) {
        if (treadle < 0 || treadle >= TREADLES || shafts < 0 || shafts >= SETS) {
            return NONE;
        }
        return ledger.tellOne(TIE_OF_TREADLE + treadle, shafts);
    }

    public int tread(int pick, int treadles) {
        if (!isPick(pick) || treadles < 0 || treadles >= SETS) {
            return NONE;
        }
        return ledger.tellOne(TREAD_OF_PICK + pick, treadles);
    }

    public int colour(boolean end, int which, int colour) {
        boolean there = end ? isEnd(which) : isPick(which);
        if (!there || !isColour(colour)) {
            return NONE;
        }
        return ledger.tellOne((end ? COLOUR_OF_END : COLOUR_OF_PICK) + which, colour);
    }

    public int feed(int a, int b, int c, int d, int e) {
        if (tape.size + BYTES_FED > MOST_BYTES) {
            return NONE;
        }
        tape.appendWord(a);
        tape.appendWord(b);
        tape.appendWord(c);
        tape.appendWord(d);
        tape.appendWord(e);
        return tape.size;
    }

    public int end(int n) {
        if (n < 0 || n > tape.size) {
            return NONE;
        }
        tape.size = n;
        return n;
    }

    public int text() {
        reader.readTape();
        tape.size = 0;
        return reader.fault == 0 ? ledger.takeStaged() : NONE;
    }

    public int fault(int what) {
        if (what == 0) {
            return reader.fault;
        }
        return what == 1 ? reader.faultPlace : NONE;
    }

    public boolean look(int time) {
        if (time < 0 || time > ledger.time) {
            return false;
        }
        ledger.lookAt(time);
        return true;
    }

    public int shaft(int end) {
        return isEnd(end) ? ledger.valueOf(SHAFT_OF_END + end) : NONE;
    }

    public int lift(int pick) {
        cloth.weave();
        return isPick(pick) ? cloth.lifts[pick] : NONE;
    }

    public long row(int pick) {
        cloth.weave();
        return isPick(pick) ? cloth.rows[pick] : NONE;
    }

    public int lead(int end, int pick, int what) {
        if (!isEnd(end) || !isPick(pick)) {
            return NONE;
        }
        switch (what) {
            case 0:
                return ledger.valueOf(SHAFT_OF_END + end);
            case 1:
                return lowestTreadle(ledger.valueOf(SHAFT_OF_END + end), pick);
            case 2:
                return ledger.timeOf(SHAFT_OF_END + end);
            case 3:
                return ledger.timeOf(TREAD_OF_PICK + pick);
            default:
                return NONE;
        }
    }

    public int longest(boolean warp, boolean over) {
        cloth.weave();
        runs.countFloats(warp, over);
        return runs.longestOne();
    }

    public int floats(boolean warp, boolean over, int n) {
        cloth.weave();
        runs.countFloats(warp, over);
        return runs.longerThan(n);
    }

    public int layers(int a, int b, int c, int d) {
        if (!isPart(a, b, c, d)) {
            return NONE;
        }
        cloth.weave();
        layering.sortPart(a, b, c, d);
        return layering.count;
    }

    public int layer(int a, int b, int c, int d, int strand) {
        if (!isPart(a, b, c, d)) {
            return NONE;
        }
        cloth.weave();
        layering.sortPart(a, b, c, d);
        if (strand >= a && strand <= b) {
            return layering.numberOf(strand);
        }
        // c and d are below 48, so that these sums stay small, unlike strand - wide
        if (strand >= wide + c && strand <= wide + d) {
            return layering.numberOf(MOST_THREADS + strand - wide);
        }
        return NONE;
    }

    public int seenColour(int end, int pick) {
        if (!isEnd(end) || !isPick(pick)) {
            return NONE;
        }
        cloth.weave();
        boolean up = has(cloth.rows[pick], end);
        return ledger.valueOf(up ? COLOUR_OF_END + end : COLOUR_OF_PICK + pick);
    }

    public int coloured(int colour) {
        if (!isColour(colour)) {
            return NONE;
        }
        cloth.weave();
        long ends = endsOfColour(colour);
        int count = 0;
        for (int pick = 0; pick < high; pick++) {
            long row = cloth.rows[pick];
            count += Long.bitCount(row & ends);
            if (ledger.valueOf(COLOUR_OF_PICK + pick) == colour) {
                count += wide - Long.bitCount(row);
            }
        }
        return count;
    }

    public int period(boolean ends, boolean colours) {
        cloth.weave();
        if (colours) {
            planes.showColours();
        } else {
            planes.showCells();
        }
        int size = ends ? wide : high;
        for (int n = 1; n < size; n++) {
            if (ends ? planes.likeAlongEnds(n) : planes.likeAlongPicks(n)) {
                return n;
            }
        }
        return size;
    }

    public int fewest(boolean treadles) {
        cloth.weave();
        return treadles ? unlikeLines(cloth.rows, high) : unlikeLines(cloth.columns, wide);
    }

    public int pegs(boolean turned) {
        cloth.weave();
        int count = 0;
        for (int pick = 0; pick < high; pick++) {
            int lifted = cloth.lifts[pick];
            count += Integer.bitCount(turned ? cloth.used & ~lifted : lifted);
        }
        return count;
    }

    public int cover(int i) {
        cloth.weave();
        covering.find();
        if (i == NONE) {
            return covering.size;
        }
        return i >= 0 && i < covering.size ? covering.tieAt(i) : NONE;
    }

    public boolean seen(int pick, long row) {
        if (!isPick(pick)) {
            return false;
        }
        sight.noteRow(pick, row & cloth.allEnds);
        return true;
    }

    public int wrong(int end) {
        cloth.weave();
        return isEnd(end) ? Long.bitCount(cloth.columns[end] ^ sight.columns[end]) : NONE;
    }

    public int nearest(int end, int what) {
        if (!isEnd(end) || what < 0 || what > 1) {
            return OTHER;
        }
        int shaft = nearestShaft(end);
        return what == 0 ? shaft : unlikePicks(end, shaft);
    }

    public int mended(int what) {
        cloth.weave();
        mending.find();
        if (!mending.found) {
            return OTHER;
        }
        switch (what) {
            case 0:
                return mending.cost;
            case 1:
                return mending.treadle;
            case 2:
                return mending.shaft;
            default:
                return OTHER;
        }
    }

    public int mendedShaft(int end) {
        if (!isEnd(end)) {
            return OTHER;
        }
        cloth.weave();
        mending.find();
        return mending.found ? mending.shafts[end] : OTHER;
    }

    public int shifted(boolean ends) {
        if (countCells(sight.rows) != cellsUp()) {
            return NONE;
        }
        int first = firstMixedPick();
        for (int dy = 0; dy < high; dy++) {
            for (int dx = 0; dx < wide; dx++) {
                if (sight.isMoved(first, dx, dy)) {
                    return ends ? dx : dy;
                }
            }
        }
        return NONE;
    }

    public int about(int what) {
        switch (what) {
            case 0:
                return wide;
            case 1:
                return high;
            case 2:
                return ledger.time;
            case 3:
                return ledger.look;
            case 4:
                return ledger.entries;
            case 5:
                return cellsUp();
            case 6:
                return tape.size;
            case 7:
                return threadedEnds();
            default:
                return NONE;
        }
    }

    private boolean isEnd(int end) {
        return end >= 0 && end < wide;
    }

    private boolean isPick(int pick) {
        return pick >= 0 && pick < high;
    }

    private boolean isPart(int a, int b, int c, int d) {
        return isEnd(a) && isEnd(b) && a <= b && isPick(c) && isPick(d) && c <= d;
    }

    private static boolean isColour(int colour) {
        return colour >= 0 && colour < COLOURS;
    }

    private static boolean has(long set, int member) {
        return (set >>> member & 1L) != 0L;
    }

    /** The lowest n bits. */
    private static long firstBits(int n) {
        return (1L << n) - 1L;
    }

    /** A line of the given length, 48 at most, moved up by some places (0 to length), over and over. */
    private static long moved(long line, int length, int by) {
        return (line << by | line >>> (length - by)) & firstBits(length);
    }

    private int lowestTreadle(int shaft, int pick) {
        if (shaft < 0) {
            return NONE;
        }
        int treadles = ledger.valueOf(TREAD_OF_PICK + pick);
        for (int treadle = 0; treadle < TREADLES; treadle++) {
            if (has(treadles, treadle) && has(ledger.valueOf(TIE_OF_TREADLE + treadle), shaft)) {
                return treadle;
            }
        }
        return NONE;
    }

    private long endsOfColour(int colour) {
        long ends = 0L;
        for (int end = 0; end < wide; end++) {
            if (ledger.valueOf(COLOUR_OF_END + end) == colour) {
                ends |= 1L << end;
            }
        }
        return ends;
    }

    private static int unlikeLines(long[] lines, int size) {
        int count = 0;
        for (int i = 0; i < size && i < lines.length; i++) {
            boolean fresh = lines[i] != 0L;
            for (int j = 0; j < i && fresh; j++) {
                fresh = lines[j] != lines[i];
            }
            if (fresh) {
                count++;
            }
        }
        return count;
    }

    private int unlikePicks(int end, int shaft) {
        return Long.bitCount(cloth.picksOf(shaft) ^ sight.columns[end]);
    }

    private int nearestShaft(int end) {
        cloth.weave();
        int best = ledger.valueOf(SHAFT_OF_END + end);
        int least = unlikePicks(end, best);
        // NONE is one below SHAFT 0, so that rising numbers are the order of like ones
        for (int shaft = NONE; shaft < SHAFTS; shaft++) {
            int unlike = unlikePicks(end, shaft);
            if (unlike < least) {
                least = unlike;
                best = shaft;
            }
        }
        return best;
    }

    private int cellsUp() {
        cloth.weave();
        return countCells(cloth.rows);
    }

    private static int countCells(long[] rows) {
        int count = 0;
        for (long row : rows) {
            count += Long.bitCount(row);
        }
        return count;
    }

    /** The first PICK that is best compared first: rows that are all alike fit however they are moved. */
    private int firstMixedPick() {
        for (int pick = 0; pick < high; pick++) {
            if (cloth.rows[pick] != 0L && cloth.rows[pick] != cloth.allEnds) {
                return pick;
            }
        }
        return 0;
    }

    private int threadedEnds() {
        int count = 0;
        for (int end = 0; end < wide; end++) {
            if (ledger.valueOf(SHAFT_OF_END + end) != NONE) {
                count++;
            }
        }
        return count;
    }

    /** All that was told, in its order, and how it stands at THE LOOK. */
    private static final class Ledger {
        private final int[] slots = new int[MOST_ENTRIES];
        private final int[] values = new int[MOST_ENTRIES];
        private final int[] times = new int[MOST_ENTRIES];
        private final int[] nowValues = new int[SLOTS];
        private final int[] nowTimes = new int[SLOTS];
        private int entries;
        /** ENTRIES, with those of a telling that may still be refused. */
        private int staged;
        private int time;
        private int look;
        /** Grows whenever the values at THE LOOK may have changed. */
        private int edition;

        private Ledger() {
            forget();
            edition = 1;
        }

        private int valueOf(int slot) {
            return slot >= 0 && slot < SLOTS ? nowValues[slot] : 0;
        }

        private int timeOf(int slot) {
            return slot >= 0 && slot < SLOTS ? nowTimes[slot] : NONE;
        }

        private int tellOne(int slot, int value) {
            dropStaged();
            stage(slot, value);
            return takeStaged();
        }

        private void dropStaged() {
            staged = entries;
        }

        /** Counts on beyond the limit, so that a text too long for it can still be read for its FAULT. */
        private void stage(int slot, int value) {
            if (staged < MOST_ENTRIES) {
                slots[staged] = slot;
                values[staged] = value;
                times[staged] = time + 1;
            }
            staged++;
        }

        private int takeStaged() {
            if (time >= MOST_TIMES || staged > MOST_ENTRIES) {
                return NONE;
            }
            int known = look == time ? entries : 0;
            entries = staged;
            time++;
            look = time;
            replay(known);
            return time;
        }

        private void lookAt(int newLook) {
            look = newLook;
            replay(0);
        }

        private void forget() {
            Arrays.fill(nowValues, 0);
            Arrays.fill(nowTimes, NONE);
            for (int end = 0; end < MOST_THREADS; end++) {
                nowValues[SHAFT_OF_END + end] = NONE;
            }
        }

        private void replay(int from) {
            edition++;
            if (from <= 0) {
                forget();
            }
            for (int i = Math.max(0, from); i < entries && i < MOST_ENTRIES && times[i] <= look; i++) {
                int slot = slots[i];
                if (slot >= 0 && slot < SLOTS) {
                    nowValues[slot] = values[i];
                    nowTimes[slot] = times[i];
                }
            }
        }
    }

    /** THE CLOTH at THE LOOK, held both by PICKS and by ENDS. */
    private static final class Cloth {
        private final Ledger ledger;
        private final int wide;
        private final int high;
        private final long allEnds;
        private final int[] lifts = new int[MOST_THREADS];
        private final long[] rows = new long[MOST_THREADS];
        private final long[] columns = new long[MOST_THREADS];
        private final long[] shaftEnds = new long[SHAFTS];
        private final long[] shaftPicks = new long[SHAFTS];
        private final long[] treadlePicks = new long[TREADLES];
        /** The SHAFTS that some END has. */
        private int used;
        private int edition;

        private Cloth(Ledger ledger, int wide, int high) {
            this.ledger = ledger;
            this.wide = wide;
            this.high = high;
            allEnds = firstBits(wide);
        }

        private void weave() {
            if (edition == ledger.edition) {
                return;
            }
            edition = ledger.edition;
            press();
            raise();
            hang();
            cross();
        }

        private long picksOf(int shaft) {
            return shaft >= 0 && shaft < SHAFTS ? shaftPicks[shaft] : 0L;
        }

        private void press() {
            Arrays.fill(treadlePicks, 0L);
            for (int pick = 0; pick < high; pick++) {
                int treadles = ledger.valueOf(TREAD_OF_PICK + pick);
                int lifted = 0;
                for (int treadle = 0; treadle < TREADLES; treadle++) {
                    if (has(treadles, treadle)) {
                        treadlePicks[treadle] |= 1L << pick;
                        lifted |= ledger.valueOf(TIE_OF_TREADLE + treadle);
                    }
                }
                lifts[pick] = lifted;
            }
        }

        private void raise() {
            Arrays.fill(shaftPicks, 0L);
            for (int pick = 0; pick < high; pick++) {
                for (int shaft = 0; shaft < SHAFTS; shaft++) {
                    if (has(lifts[pick], shaft)) {
                        shaftPicks[shaft] |= 1L << pick;
                    }
                }
            }
        }

        private void hang() {
            Arrays.fill(shaftEnds, 0L);
            used = 0;
            for (int end = 0; end < wide; end++) {
                int shaft = ledger.valueOf(SHAFT_OF_END + end);
                columns[end] = picksOf(shaft);
                if (shaft >= 0 && shaft < SHAFTS) {
                    used |= 1 << shaft;
                    shaftEnds[shaft] |= 1L << end;
                }
            }
        }

        private void cross() {
            for (int pick = 0; pick < high; pick++) {
                long row = 0L;
                for (int shaft = 0; shaft < SHAFTS; shaft++) {
                    if (has(lifts[pick], shaft)) {
                        row |= shaftEnds[shaft];
                    }
                }
                rows[pick] = row;
            }
        }
    }

    /** The tape, and its TOKENS one after the other. */
    private static final class Tape {
        /** Kinds of TOKENS; a sign's kind is the sign itself, and those all lie above these. */
        private static final int STOP = 0;
        private static final int NOTHING = 1;
        private static final int NUMBER = 2;
        private static final int LETTER = 3;
        private static final int BLOCK = 4;
        private static final int THREAD = 5;
        private static final int TREAD = 6;
        private static final int TIE = 7;
        private static final int TO = 8;
        private static final int MIRROR = 9;
        private static final int BACK = 10;
        private static final int PLUS = 11;

        /** Above each NUMBER that is told anywhere; longer ones stay here. */
        private static final int TOO_MUCH = 999;

        private final int[] bytes = new int[MOST_BYTES];
        private int size;
        private int next;
        private int kind;
        private int place;
        /** The value of a NUMBER, or which LETTER it is. */
        private int number;

        private void appendWord(int word) {
            for (int shift = 24; shift >= 0 && size < MOST_BYTES; shift -= 8) {
                bytes[size] = word >>> shift & 255;
                size++;
            }
        }

        private void rewind() {
            next = 0;
        }

        private void advance() {
            while (next < size && isBlank(byteAt(next))) {
                next++;
            }
            place = next;
            int sign = byteAt(next);
            if (sign == NONE) {
                kind = STOP;
            } else if (isDigit(sign)) {
                readNumber();
            } else if (isAlphabetic(sign)) {
                readWord();
            } else {
                next++;
                kind = isSign(sign) ? sign : NOTHING;
            }
        }

        private int byteAt(int i) {
            return i >= 0 && i < size && i < MOST_BYTES ? bytes[i] : NONE;
        }

        private void readNumber() {
            kind = NUMBER;
            number = 0;
            while (next < size && isDigit(byteAt(next))) {
                number = Math.min(TOO_MUCH, number * 10 + byteAt(next) - '0');
                next++;
            }
        }

        private void readWord() {
            while (next < size && isAlphabetic(byteAt(next))) {
                next++;
            }
            int first = byteAt(place);
            if (next == place + 1 && first >= 'A' && first <= 'H') {
                kind = LETTER;
                number = first - 'A';
            } else {
                kind = kindOfWord();
            }
        }

        private int kindOfWord() {
            if (isWord("block")) {
                return BLOCK;
            } else if (isWord("thread")) {
                return THREAD;
            } else if (isWord("tread")) {
                return TREAD;
            } else if (isWord("tie")) {
                return TIE;
            } else if (isWord("to")) {
                return TO;
            } else if (isWord("mirror")) {
                return MIRROR;
            } else if (isWord("back")) {
                return BACK;
            }
            return isWord("plus") ? PLUS : NOTHING;
        }

        private boolean isWord(String word) {
            boolean like = next - place == word.length();
            for (int i = 0; i < word.length() && like; i++) {
                like = byteAt(place + i) == word.charAt(i);
            }
            return like;
        }

        private static boolean isBlank(int sign) {
            return sign == ' ' || sign == '\n';
        }

        private static boolean isDigit(int sign) {
            return sign >= '0' && sign <= '9';
        }

        private static boolean isAlphabetic(int sign) {
            return sign >= 'a' && sign <= 'z' || sign >= 'A' && sign <= 'Z';
        }

        private static boolean isSign(int sign) {
            return sign == '=' || sign == ',' || sign == ';' || sign == '*' || sign == '(' || sign == ')';
        }
    }

    /** Reads a text TOKEN by TOKEN and stages what it tells; stops at the first FAULT. */
    private static final class Reader {
        private static final int CANNOT_STAND = 1;
        private static final int WRONG_NUMBER = 2;
        private static final int TOO_DEEP = 3;
        private static final int WRONG_LETTER = 4;
        private static final int TOO_MANY = 5;

        /** What is waited for. */
        private static final int NEW_CLAUSE = 0;
        private static final int BLOCK_LETTER = 1;
        private static final int BLOCK_SIGN = 2;
        private static final int TREADLE = 3;
        private static final int ONE = 4;
        private static final int BEHIND_NUMBER = 5;
        private static final int LAST_OF_RANGE = 6;
        private static final int PLUS_NUMBER = 7;
        private static final int BRACKET = 8;
        private static final int BEHIND_ONE = 9;
        private static final int TIMES = 10;
        private static final int BEHIND_ITEM = 11;
        private static final int READ = 12;

        /** Shapes of brackets: 0 to 15 add so much, and a bare one adds 0. */
        private static final int BARE = 0;
        private static final int MIRRORED = 16;
        private static final int BACKWARD = 17;

        private static final int MOST_OPEN = 8;
        private static final int MOST_NUMBERS = 200;
        private static final int MOST_COPIES = 48;
        private static final int LETTERS = 8;

        private final Tape tape;
        private final Ledger ledger;
        private final int wide;
        private final int high;
        /** The numbers of all open ROWS, an inner one's behind those of the one around it. */
        private final int[] numbers = new int[MOST_NUMBERS * (MOST_OPEN + 1)];
        private final int[] rowStarts = new int[MOST_OPEN + 1];
        private final int[] itemStarts = new int[MOST_OPEN + 1];
        private final int[] shapes = new int[MOST_OPEN + 1];
        private final int[] blocks = new int[MOST_NUMBERS * LETTERS];
        /** 0: not told, as no ROW is empty. */
        private final int[] blockSizes = new int[LETTERS];
        private int top;
        private int depth;
        private int state;
        private int clause;
        /** The block's LETTER or the tie's TREADLE. */
        private int target;
        private int shape;
        private int first;
        private int firstPlace;
        /** NONE ahead of any text. */
        private int fault = NONE;
        private int faultPlace = NONE;

        private Reader(Tape tape, Ledger ledger, int wide, int high) {
            this.tape = tape;
            this.ledger = ledger;
            this.wide = wide;
            this.high = high;
        }

        private void readTape() {
            fault = 0;
            faultPlace = NONE;
            Arrays.fill(blockSizes, 0);
            ledger.dropStaged();
            tape.rewind();
            state = NEW_CLAUSE;
            for (int tokens = 0; tokens <= MOST_BYTES && state != READ; tokens++) {
                tape.advance();
                endWhatCannotGoOn();
                step();
            }
        }

        /** A NUMBER may be a ONE, and a ONE an ITEM, by what stands behind it: with that they are done. */
        private void endWhatCannotGoOn() {
            if (state == BEHIND_NUMBER && tape.kind != Tape.TO) {
                endNumber();
            }
            if (state == BEHIND_ONE && tape.kind != '*') {
                state = BEHIND_ITEM;
            }
        }

        private void fail(int what) {
            failAt(what, tape.place);
        }

        private void failAt(int what, int place) {
            fault = what;
            faultPlace = place;
            state = READ;
        }

        private void step() {
            switch (state) {
                case NEW_CLAUSE:
                    startClause();
                    break;
                case BLOCK_LETTER:
                    nameBlock();
                    break;
                case BLOCK_SIGN:
                    openFirstRow('=');
                    break;
                case TREADLE:
                    nameTreadle();
                    break;
                case ONE:
                    startOne();
                    break;
                case BEHIND_NUMBER:
                    state = LAST_OF_RANGE;
                    break;
                case LAST_OF_RANGE:
                    endRange();
                    break;
                case PLUS_NUMBER:
                    nameSum();
                    break;
                case BRACKET:
                    openBracket();
                    break;
                case BEHIND_ONE:
                    state = TIMES;
                    break;
                case TIMES:
                    copyItem();
                    break;
                case BEHIND_ITEM:
                    goOnBehindItem();
                    break;
                default:
                    break;
            }
        }

        private void startClause() {
            clause = tape.kind;
            switch (clause) {
                case Tape.STOP:
                    state = READ;
                    break;
                case Tape.BLOCK:
                    state = BLOCK_LETTER;
                    break;
                case Tape.TIE:
                    state = TREADLE;
                    break;
                case Tape.THREAD:
                case Tape.TREAD:
                    openFirstRow(clause);
                    break;
                default:
                    fail(CANNOT_STAND);
                    break;
            }
        }

        private void nameBlock() {
            if (tape.kind != Tape.LETTER) {
                fail(CANNOT_STAND);
            } else if (blockSize(tape.number) != 0) {
                fail(WRONG_LETTER);
            } else {
                target = tape.number;
                state = BLOCK_SIGN;
            }
        }

        private void nameTreadle() {
            if (isNumber(0, TREADLES - 1)) {
                target = tape.number;
                openFirstRow(Tape.NUMBER);
            }
        }

        /** Fails itself, if the TOKEN isn't such a NUMBER. */
        private boolean isNumber(int least, int most) {
            if (tape.kind != Tape.NUMBER) {
                fail(CANNOT_STAND);
                return false;
            }
            if (tape.number < least || tape.number > most) {
                fail(WRONG_NUMBER);
                return false;
            }
            return true;
        }

        private void openFirstRow(int behind) {
            if (tape.kind != behind) {
                fail(CANNOT_STAND);
                return;
            }
            depth = 0;
            top = 0;
            rowStarts[0] = 0;
            state = ONE;
        }

        private void startOne() {
            itemStarts[openRow()] = top;
            switch (tape.kind) {
                case Tape.NUMBER:
                    holdNumber();
                    break;
                case Tape.LETTER:
                    addBlock();
                    break;
                case '(':
                    shape = BARE;
                    openBracket();
                    break;
                case Tape.MIRROR:
                    shape = MIRRORED;
                    state = BRACKET;
                    break;
                case Tape.BACK:
                    shape = BACKWARD;
                    state = BRACKET;
                    break;
                case Tape.PLUS:
                    state = PLUS_NUMBER;
                    break;
                default:
                    fail(CANNOT_STAND);
                    break;
            }
        }

        /** It is added a TOKEN later: with a "to" behind it, it doesn't end its ONE. */
        private void holdNumber() {
            if (isNumber(0, SHAFTS - 1)) {
                first = tape.number;
                firstPlace = tape.place;
                state = BEHIND_NUMBER;
            }
        }

        private void endNumber() {
            if (hasRoom(1)) {
                add(first);
                state = BEHIND_ONE;
            } else {
                failAt(TOO_MANY, firstPlace);
            }
        }

        private void endRange() {
            if (!isNumber(0, SHAFTS - 1)) {
                return;
            }
            int steps = Math.abs(tape.number - first);
            if (!hasRoom(steps + 1)) {
                fail(TOO_MANY);
                return;
            }
            int direction = tape.number < first ? -1 : 1;
            for (int i = 0; i <= steps; i++) {
                add(first + i * direction);
            }
            state = BEHIND_ONE;
        }

        private void addBlock() {
            int letter = tape.number;
            int size = blockSize(letter);
            if (size == 0) {
                fail(WRONG_LETTER);
            } else if (!hasRoom(size)) {
                fail(TOO_MANY);
            } else {
                for (int i = 0; i < size; i++) {
                    add(blockNumber(letter, i));
                }
                state = BEHIND_ONE;
            }
        }

        private void nameSum() {
            if (isNumber(0, SHAFTS - 1)) {
                shape = tape.number;
                state = BRACKET;
            }
        }

        private void openBracket() {
            if (tape.kind != '(') {
                fail(CANNOT_STAND);
            } else if (depth >= MOST_OPEN) {
                fail(TOO_DEEP);
            } else {
                depth++;
                int row = openRow();
                rowStarts[row] = top;
                shapes[row] = shape;
                state = ONE;
            }
        }

        private void closeBracket() {
            int row = openRow();
            int from = rowStarts[row];
            int to = top;
            int done = shapes[row];
            depth--;
            int grown = done == MIRRORED ? Math.max(0, to - from - 2) : 0;
            if (!hasRoom(grown)) {
                fail(TOO_MANY);
                return;
            }
            if (done == MIRRORED) {
                for (int i = to - 2; i > from; i--) {
                    add(numberAt(i));
                }
            } else if (done == BACKWARD) {
                turnBack(from, to);
            } else {
                raiseNumbers(from, to, done);
            }
            state = BEHIND_ONE;
        }

        private void turnBack(int from, int to) {
            for (int low = from, last = to - 1; low < last; low++, last--) {
                int kept = numberAt(low);
                put(low, numberAt(last));
                put(last, kept);
            }
        }

        private void raiseNumbers(int from, int to, int by) {
            for (int i = from; i < to; i++) {
                put(i, numberAt(i) + by & SHAFTS - 1);
            }
        }

        private void copyItem() {
            if (!isNumber(1, MOST_COPIES)) {
                return;
            }
            int from = itemStarts[openRow()];
            int grown = (top - from) * (tape.number - 1);
            if (!hasRoom(grown)) {
                fail(TOO_MANY);
                return;
            }
            for (int i = 0; i < grown; i++) {
                add(numberAt(from + i));
            }
            state = BEHIND_ITEM;
        }

        private void goOnBehindItem() {
            if (tape.kind == ',') {
                state = ONE;
            } else if (tape.kind == ')' && depth > 0) {
                closeBracket();
            } else if (tape.kind == ';' && depth == 0) {
                endClause();
            } else {
                fail(CANNOT_STAND);
            }
        }

        private void endClause() {
            state = NEW_CLAUSE;
            switch (clause) {
                case Tape.BLOCK:
                    keepBlock();
                    break;
                case Tape.THREAD:
                    stageAlong(SHAFT_OF_END, wide);
                    break;
                case Tape.TREAD:
                    stageAlong(TREAD_OF_PICK, high);
                    break;
                default:
                    stageTie();
                    break;
            }
        }

        private void keepBlock() {
            if (target < 0 || target >= LETTERS) {
                return;
            }
            blockSizes[target] = Math.min(top, MOST_NUMBERS);
            for (int i = 0; i < top && i < MOST_NUMBERS; i++) {
                blocks[target * MOST_NUMBERS + i] = numberAt(i);
            }
        }

        private void stageAlong(int firstSlot, int size) {
            int from = 0;
            for (int i = 0; i < size; i++) {
                int number = numberAt(from);
                ledger.stage(firstSlot + i, clause == Tape.TREAD ? 1 << number : number);
                from = from + 1 < top ? from + 1 : 0;
            }
        }

        private void stageTie() {
            int shafts = 0;
            for (int i = 0; i < top; i++) {
                shafts |= 1 << numberAt(i);
            }
            ledger.stage(TIE_OF_TREADLE + target, shafts);
        }

        private int openRow() {
            return Math.max(0, Math.min(MOST_OPEN, depth));
        }

        private boolean hasRoom(int more) {
            return top - rowStarts[openRow()] + more <= MOST_NUMBERS;
        }

        private void add(int number) {
            if (top >= 0 && top < numbers.length) {
                numbers[top] = number;
                top++;
            }
        }

        private int numberAt(int i) {
            return i >= 0 && i < numbers.length ? numbers[i] : 0;
        }

        private void put(int i, int number) {
            if (i >= 0 && i < numbers.length) {
                numbers[i] = number;
            }
        }

        private int blockSize(int letter) {
            return letter >= 0 && letter < LETTERS ? blockSizes[letter] : 0;
        }

        private int blockNumber(int letter, int i) {
            int at = letter * MOST_NUMBERS + i;
            return at >= 0 && at < blocks.length ? blocks[at] : 0;
        }
    }

    /** How many FLOATS of each length there are. */
    private static final class Runs {
        private final Cloth cloth;
        private final int[] counts = new int[MOST_THREADS + 1];

        private Runs(Cloth cloth) {
            this.cloth = cloth;
        }

        private void countFloats(boolean warp, boolean over) {
            Arrays.fill(counts, 0);
            int lines = warp ? cloth.wide : cloth.high;
            int length = warp ? cloth.high : cloth.wide;
            for (int i = 0; i < lines && i < MOST_THREADS; i++) {
                long line = warp ? cloth.columns[i] : ~cloth.rows[i] & cloth.allEnds;
                countLine(over ? cutOpen(line, length) : line, length);
            }
        }

        /** Moves a line that goes on over its edge so that no run does. */
        private static long cutOpen(long line, int length) {
            int gap = Long.numberOfTrailingZeros(~line);
            return gap < length ? moved(line, length, length - gap) : line;
        }

        private void countLine(long line, int length) {
            int run = 0;
            for (int i = 0; i <= length; i++) {
                if (i < length && has(line, i)) {
                    run++;
                } else {
                    if (run > 0 && run <= MOST_THREADS) {
                        counts[run]++;
                    }
                    run = 0;
                }
            }
        }

        private int longestOne() {
            for (int length = MOST_THREADS; length > 0; length--) {
                if (counts[length] > 0) {
                    return length;
                }
            }
            return 0;
        }

        private int longerThan(int n) {
            int count = 0;
            for (int length = 1; length <= MOST_THREADS; length++) {
                if (length > n) {
                    count += counts[length];
                }
            }
            return count;
        }
    }

    /** What is compared for a PERIOD, as rows of bits: one plane of CELLS, or four of COLOURS. */
    private static final class Planes {
        private static final int COLOUR_BITS = 4;

        private final Cloth cloth;
        private final Ledger ledger;
        private final long[] rows = new long[COLOUR_BITS * MOST_THREADS];
        private int count;

        private Planes(Cloth cloth, Ledger ledger) {
            this.cloth = cloth;
            this.ledger = ledger;
        }

        private void showCells() {
            count = 1;
            for (int pick = 0; pick < cloth.high && pick < MOST_THREADS; pick++) {
                rows[pick] = cloth.rows[pick];
            }
        }

        private void showColours() {
            count = COLOUR_BITS;
            for (int plane = 0; plane < COLOUR_BITS; plane++) {
                long ends = 0L;
                for (int end = 0; end < cloth.wide; end++) {
                    if (has(ledger.valueOf(COLOUR_OF_END + end), plane)) {
                        ends |= 1L << end;
                    }
                }
                for (int pick = 0; pick < cloth.high && pick < MOST_THREADS; pick++) {
                    long up = cloth.rows[pick];
                    boolean weft = has(ledger.valueOf(COLOUR_OF_PICK + pick), plane);
                    rows[plane * MOST_THREADS + pick] = up & ends | (weft ? ~up & cloth.allEnds : 0L);
                }
            }
        }

        private boolean likeAlongEnds(int n) {
            long compared = cloth.allEnds >>> n;
            boolean like = true;
            for (int plane = 0; plane < count; plane++) {
                for (int pick = 0; pick < cloth.high && like; pick++) {
                    long row = rowAt(plane, pick);
                    like = ((row ^ row >>> n) & compared) == 0L;
                }
            }
            return like;
        }

        private boolean likeAlongPicks(int n) {
            boolean like = true;
            for (int plane = 0; plane < count; plane++) {
                for (int pick = 0; pick < cloth.high - n && like; pick++) {
                    like = rowAt(plane, pick) == rowAt(plane, pick + n);
                }
            }
            return like;
        }

        private long rowAt(int plane, int pick) {
            int at = plane * MOST_THREADS + pick;
            return at >= 0 && at < rows.length ? rows[at] : 0L;
        }
    }

    /** The LAYERS of a part; here STRANDS are ENDS from 0 on and PICKS from 48 on. */
    private static final class Layering {
        private static final int STRANDS = 2 * MOST_THREADS;

        private final Cloth cloth;
        private final long[] endsBelow = new long[STRANDS];
        private final long[] picksBelow = new long[STRANDS];
        private final long[] endsAbove = new long[STRANDS];
        private final long[] picksAbove = new long[STRANDS];
        private final int[] numbers = new int[STRANDS];
        private int count;
        private int firstEnd;
        private int lastEnd;
        private int firstPick;
        private int lastPick;
        private long openEnds;
        private long openPicks;
        private int edition;

        private Layering(Cloth cloth) {
            this.cloth = cloth;
        }

        private void sortPart(int a, int b, int c, int d) {
            boolean samePart = a == firstEnd && b == lastEnd && c == firstPick && d == lastPick;
            if (samePart && edition == cloth.edition) {
                return;
            }
            edition = cloth.edition;
            firstEnd = Math.max(0, a);
            lastEnd = Math.min(MOST_THREADS - 1, b);
            firstPick = Math.max(0, c);
            lastPick = Math.min(MOST_THREADS - 1, d);
            openEnds = firstBits(lastEnd + 1) & ~firstBits(firstEnd);
            openPicks = firstBits(lastPick + 1) & ~firstBits(firstPick);
            relate();
            followChains(endsBelow, picksBelow);
            followChains(endsAbove, picksAbove);
            numberAll();
        }

        private int numberOf(int strand) {
            return strand >= 0 && strand < STRANDS ? numbers[strand] : NONE;
        }

        private void relate() {
            for (int end = firstEnd; end <= lastEnd; end++) {
                endsBelow[end] = 0L;
                picksBelow[end] = cloth.columns[end] & openPicks;
                endsAbove[end] = 0L;
                picksAbove[end] = ~cloth.columns[end] & openPicks;
            }
            for (int pick = firstPick; pick <= lastPick; pick++) {
                int strand = MOST_THREADS + pick;
                endsBelow[strand] = ~cloth.rows[pick] & openEnds;
                picksBelow[strand] = 0L;
                endsAbove[strand] = cloth.rows[pick] & openEnds;
                picksAbove[strand] = 0L;
            }
        }

        private void followChains(long[] ends, long[] picks) {
            for (int end = firstEnd; end <= lastEnd; end++) {
                followThrough(ends, picks, end);
            }
            for (int pick = firstPick; pick <= lastPick; pick++) {
                followThrough(ends, picks, MOST_THREADS + pick);
            }
        }

        /** Each STRAND that is so related to the middle one is so to all that the middle one is to. */
        private void followThrough(long[] ends, long[] picks, int middle) {
            boolean isEnd = middle < MOST_THREADS;
            long[] related = isEnd ? ends : picks;
            long mark = 1L << (isEnd ? middle : middle - MOST_THREADS);
            long moreEnds = ends[middle];
            long morePicks = picks[middle];
            for (int end = firstEnd; end <= lastEnd; end++) {
                if ((related[end] & mark) != 0L) {
                    ends[end] |= moreEnds;
                    picks[end] |= morePicks;
                }
            }
            for (int strand = MOST_THREADS + firstPick; strand <= MOST_THREADS + lastPick; strand++) {
                if ((related[strand] & mark) != 0L) {
                    ends[strand] |= moreEnds;
                    picks[strand] |= morePicks;
                }
            }
        }

        private void numberAll() {
            count = 0;
            for (int turns = 0; turns < STRANDS && (openEnds | openPicks) != 0L; turns++) {
                int strand = lowestOnTop();
                if (strand >= 0 && strand < STRANDS) {
                    numberLayerOf(strand);
                }
            }
        }

        private int lowestOnTop() {
            for (int end = firstEnd; end <= lastEnd; end++) {
                if (has(openEnds, end) && isOnTop(end)) {
                    return end;
                }
            }
            for (int pick = firstPick; pick <= lastPick; pick++) {
                if (has(openPicks, pick) && isOnTop(MOST_THREADS + pick)) {
                    return MOST_THREADS + pick;
                }
            }
            return NONE;
        }

        private boolean isOnTop(int strand) {
            return (endsAbove[strand] & ~endsBelow[strand] & openEnds) == 0L
                    && (picksAbove[strand] & ~picksBelow[strand] & openPicks) == 0L;
        }

        private void numberLayerOf(int strand) {
            boolean isEnd = strand < MOST_THREADS;
            // a STRAND by itself is not above itself by any chain
            long ends = endsAbove[strand] & endsBelow[strand] | (isEnd ? 1L << strand : 0L);
            long picks = picksAbove[strand] & picksBelow[strand] | (isEnd ? 0L : 1L << strand - MOST_THREADS);
            for (int end = firstEnd; end <= lastEnd; end++) {
                if (has(ends, end)) {
                    numbers[end] = count;
                }
            }
            for (int pick = firstPick; pick <= lastPick; pick++) {
                if (has(picks, pick)) {
                    numbers[MOST_THREADS + pick] = count;
                }
            }
            openEnds &= ~ends;
            openPicks &= ~picks;
            count++;
        }
    }

    /** The least COVER of the unlike LIFTS by TIES. */
    private static final class Covering {
        private static final int MOST_LIFTS = 5;
        private static final int MOST_TIES = 31;
        private static final int MOST_GIFTS = 55;

        private final Cloth cloth;
        private final int[] lifts = new int[MOST_LIFTS];
        private int liftCount;
        /** What some LIFTS have in common, rising. */
        private final int[] ties = new int[MOST_TIES];
        private int tieCount;
        /** For each TIE what it gives: a bit for each SHAFT of each LIFT that has all of the TIE. */
        private final long[] gifts = new long[MOST_TIES];
        /** What the TIES from each one on give together. */
        private final long[] laterGifts = new long[MOST_TIES + 1];
        /** For each gift what all TIES that give it give together. */
        private final long[] sharedGifts = new long[MOST_GIFTS];
        private int giftCount;
        private final int[] patterns = new int[SHAFTS];
        private final int[] chosen = new int[MOST_LIFTS];
        /** How many TIES; NONE: too many LIFTS. */
        private int size;
        private int edition;

        private Covering(Cloth cloth) {
            this.cloth = cloth;
        }

        private void find() {
            if (edition == cloth.edition) {
                return;
            }
            edition = cloth.edition;
            size = NONE;
            if (collectLifts()) {
                collectTies();
                markGifts();
                findLeast();
            }
        }

        private int tieAt(int i) {
            return i >= 0 && i < MOST_LIFTS ? chosen[i] : NONE;
        }

        private boolean collectLifts() {
            liftCount = 0;
            for (int pick = 0; pick < cloth.high && pick < MOST_THREADS; pick++) {
                int lifted = cloth.lifts[pick] & cloth.used;
                if (lifted != 0 && !isIn(lifts, liftCount, lifted)) {
                    if (liftCount >= MOST_LIFTS) {
                        return false;
                    }
                    lifts[liftCount] = lifted;
                    liftCount++;
                }
            }
            return true;
        }

        private static boolean isIn(int[] sets, int count, int set) {
            boolean found = false;
            for (int i = 0; i < count && i < sets.length && !found; i++) {
                found = sets[i] == set;
            }
            return found;
        }

        private void collectTies() {
            tieCount = 0;
            for (int some = 1; some < 1 << liftCount; some++) {
                int common = SETS - 1;
                for (int i = 0; i < liftCount && i < MOST_LIFTS; i++) {
                    if (has(some, i)) {
                        common &= lifts[i];
                    }
                }
                if (common != 0 && !isIn(ties, tieCount, common)) {
                    insertTie(common);
                }
            }
        }

        private void insertTie(int tie) {
            if (tieCount >= MOST_TIES) {
                return;
            }
            int at = tieCount;
            for (; at > 0 && ties[at - 1] > tie; at--) {
                ties[at] = ties[at - 1];
            }
            ties[at] = tie;
            tieCount++;
        }

        /**
         * SHAFTS that lie in the same LIFTS lie in the same TIES, so one of them stands for all. There are at most 16
         * such kinds of 31, and together they lie in 5 + 5 * 4 + 10 * 3 LIFTS at most: all bits fit into a long.
         */
        private void markGifts() {
            sortShafts();
            Arrays.fill(gifts, 0L);
            giftCount = 0;
            for (int i = 0; i < liftCount && i < MOST_LIFTS; i++) {
                for (int shaft = 0; shaft < SHAFTS; shaft++) {
                    if (has(lifts[i], shaft) && !isIn(patterns, shaft, patterns[shaft])) {
                        markGift(lifts[i], shaft);
                        giftCount++;
                    }
                }
            }
            gatherGifts();
        }

        private void gatherGifts() {
            Arrays.fill(laterGifts, 0L);
            Arrays.fill(sharedGifts, 0L);
            for (int i = MOST_TIES - 1; i >= 0; i--) {
                laterGifts[i] = laterGifts[i + 1] | gifts[i];
                for (int gift = 0; gift < MOST_GIFTS; gift++) {
                    if (has(gifts[i], gift)) {
                        sharedGifts[gift] |= gifts[i];
                    }
                }
            }
        }

        private void sortShafts() {
            for (int shaft = 0; shaft < SHAFTS; shaft++) {
                int pattern = 0;
                for (int i = 0; i < liftCount && i < MOST_LIFTS; i++) {
                    if (has(lifts[i], shaft)) {
                        pattern |= 1 << i;
                    }
                }
                patterns[shaft] = pattern;
            }
        }

        private void markGift(int lifted, int shaft) {
            for (int i = 0; i < tieCount && i < MOST_TIES; i++) {
                if (has(ties[i], shaft) && (ties[i] & ~lifted) == 0) {
                    gifts[i] |= 1L << giftCount;
                }
            }
        }

        /** The LIFTS themselves are always a COVER, so that more TIES than LIFTS are never needed. */
        private void findLeast() {
            boolean done = false;
            for (int tried = 0; tried <= liftCount && !done; tried++) {
                size = tried;
                done = choose(0, 0, 0L);
            }
        }

        /** Counts missing gifts no two of which one TIE could give: without this, some choices take far too long. */
        private boolean needsMore(long missing, int left) {
            long open = missing;
            for (int i = 0; i < left && open != 0L; i++) {
                int gift = Long.numberOfTrailingZeros(open);
                if (gift < MOST_GIFTS) {
                    open &= ~sharedGifts[gift];
                }
            }
            return open != 0L;
        }

        /** Goes through choices in the order of their sets, so that the first one found is the first of all. */
        private boolean choose(int from, int depth, long given) {
            long all = firstBits(giftCount);
            if (depth >= size || depth >= MOST_LIFTS) {
                return given == all;
            }
            if (needsMore(all & ~given, size - depth)) {
                return false;
            }
            for (int i = from; i < tieCount && i < MOST_TIES; i++) {
                if ((given | laterGifts[i]) != all) {
                    return false;
                }
                chosen[depth] = ties[i];
                if (choose(i + 1, depth + 1, given | gifts[i])) {
                    return true;
                }
            }
            return false;
        }
    }

    /** SEEN, by PICKS and by ENDS. */
    private static final class Sight {
        private final Cloth cloth;
        private final long[] rows = new long[MOST_THREADS];
        private final long[] columns = new long[MOST_THREADS];
        /** Grows with each row, as a sign for what was found by the rows ahead. */
        private int edition;

        private Sight(Cloth cloth) {
            this.cloth = cloth;
        }

        private void noteRow(int pick, long row) {
            if (pick < 0 || pick >= MOST_THREADS) {
                return;
            }
            edition++;
            rows[pick] = row;
            long mark = 1L << pick;
            for (int end = 0; end < cloth.wide && end < MOST_THREADS; end++) {
                columns[end] = has(row, end) ? columns[end] | mark : columns[end] & ~mark;
            }
        }

        /** The ENDS that are UP on just these PICKS. */
        private long endsLike(long picks) {
            long ends = 0L;
            for (int end = 0; end < cloth.wide && end < MOST_THREADS; end++) {
                if (columns[end] == picks) {
                    ends |= 1L << end;
                }
            }
            return ends;
        }

        /** Compares all PICKS, from the first given one on. */
        private boolean isMoved(int first, int dx, int dy) {
            boolean like = true;
            int high = cloth.high;
            for (int i = 0; i < high && like; i++) {
                int from = wrapped(first + i, high);
                int to = wrapped(from + dy, high);
                like = rowAt(rows, to) == moved(rowAt(cloth.rows, from), cloth.wide, dx);
            }
            return like;
        }

        private static int wrapped(int pick, int high) {
            return pick < high ? pick : pick - high;
        }

        private static long rowAt(long[] rows, int pick) {
            return pick >= 0 && pick < rows.length ? rows[pick] : 0L;
        }
    }

    /** The nearest draft by which all CELLS are as SEEN. */
    private static final class Mending {
        private final Cloth cloth;
        private final Ledger ledger;
        private final Sight sight;
        /** For each SHAFT the ENDS that it would do for, with the TIES as they are. */
        private final long[] fitting = new long[SHAFTS];
        /** The ENDS that do without a SHAFT. */
        private long bare;
        /** The ENDS that nothing would do for, and those that more than one thing would do for. */
        private long hopeless;
        private long easy;
        /** The ENDS that need another SHAFT, or none. */
        private long misled;
        private boolean found;
        private int cost;
        private int treadle;
        private int shaft;
        private final int[] shafts = new int[MOST_THREADS];
        private int clothEdition;
        private int sightEdition;

        private Mending(Cloth cloth, Ledger ledger, Sight sight) {
            this.cloth = cloth;
            this.ledger = ledger;
            this.sight = sight;
        }

        private void find() {
            if (clothEdition == cloth.edition && sightEdition == sight.edition) {
                return;
            }
            clothEdition = cloth.edition;
            sightEdition = sight.edition;
            fitEnds();
            weighThreading();
            for (int changed = 0; changed < TREADLES; changed++) {
                for (int toggled = 0; toggled < SHAFTS; toggled++) {
                    weighTie(changed, toggled);
                }
            }
            settle();
        }

        private void fitEnds() {
            bare = sight.endsLike(0L);
            long some = bare;
            long unthreaded = cloth.allEnds;
            easy = 0L;
            misled = 0L;
            for (int candidate = 0; candidate < SHAFTS; candidate++) {
                long fits = sight.endsLike(cloth.shaftPicks[candidate]);
                long owners = cloth.shaftEnds[candidate];
                fitting[candidate] = fits;
                easy |= some & fits;
                some |= fits;
                misled |= owners & ~fits;
                unthreaded &= ~owners;
            }
            misled |= unthreaded & ~bare;
            hopeless = cloth.allEnds & ~some;
        }

        private void weighThreading() {
            found = hopeless == 0L;
            cost = Long.bitCount(misled);
            treadle = NONE;
            shaft = NONE;
        }

        /** Changes come in the order of like ones, so that only a lower cost takes their place. */
        private void weighTie(int changed, int toggled) {
            long fits = sight.endsLike(picksAfter(changed, toggled));
            long alone = fitting[toggled] & ~easy;
            if (((hopeless | alone) & ~fits) != 0L) {
                return;
            }
            long owners = cloth.shaftEnds[toggled];
            int total = 1 + Long.bitCount(misled & ~owners | owners & ~fits);
            if (!found || total < cost) {
                found = true;
                cost = total;
                treadle = changed;
                shaft = toggled;
            }
        }

        /** The PICKS that lift a SHAFT when it is put into a TREADLE's TIE, or out of it. */
        private long picksAfter(int changed, int toggled) {
            long picks = 0L;
            for (int at = 0; at < TREADLES; at++) {
                boolean tied = has(ledger.valueOf(TIE_OF_TREADLE + at), toggled);
                if (tied != (at == changed)) {
                    picks |= cloth.treadlePicks[at];
                }
            }
            return picks;
        }

        private void settle() {
            if (shaft >= 0 && shaft < SHAFTS) {
                fitting[shaft] = sight.endsLike(picksAfter(treadle, shaft));
            }
            for (int end = 0; end < cloth.wide && end < MOST_THREADS; end++) {
                int own = ledger.valueOf(SHAFT_OF_END + end);
                shafts[end] = fits(end, own) ? own : firstFitting(end);
            }
        }

        private boolean fits(int end, int candidate) {
            return has(candidate >= 0 && candidate < SHAFTS ? fitting[candidate] : bare, end);
        }

        private int firstFitting(int end) {
            for (int candidate = NONE; candidate < SHAFTS; candidate++) {
                if (fits(end, candidate)) {
                    return candidate;
                }
            }
            return NONE;
        }
    }
}
