/** The bounds of what is asked of a cloth: parts III to V of the terms, promises 11 to 30; below, at and beyond each. */
public final class ClothBounds {
    private static final int LOW = Integer.MIN_VALUE;
    private static final int FAR = Integer.MAX_VALUE;
    private static final int[] SIZES = {1, 2, 3, 47, 48};

    public static void main(String[] args) {
        askedFirst();
        rows();
        leads();
        warpFloats();
        weftFloats();
        floatsAcross();
        parts();
        partsOfFullCloths();
        strands();
        holding();
        chains();
        partsInTurn();
        refusedParts();
        cellColours();
        colouredCells();
        periodsOfCells();
        periodsOfColours();
        fewestShafts();
        fewestTreadles();
        pegs();
        coverLifts();
        coverTies();
        coverIndex();
        seenBits();
        wrongs();
        nearestOnes();
        mendedCosts();
        mendedOrder();
        mendedNone();
        shiftedBounds();
        shiftedFirst();
        Sentences.finish();
    }

    private static void due(String what, long got, long want) {
        Sentences.due(what, got, want);
    }

    private static long allBits(int n) {
        return (1L << n) - 1;
    }

    /** All ENDS on SHAFT 0, which all PICKS lift, or none does. */
    private static DraftHouse plain(int wide, int high, boolean up) {
        DraftHouse x = new DraftHouse(wide, high);
        due("thread and tread", Tapes.tell(x, "thread 0; tread 0;"), 1);
        due("tie", x.tie(0, up ? 1 : 2), 2);
        return x;
    }

    /** A ROW of the first number, the second one, and the first one again, so many times each. */
    private static String runs(int first, int a, int second, int b, int c) {
        StringBuilder text = new StringBuilder();
        int[] numbers = {first, second, first};
        int[] times = {a, b, c};
        for (int i = 0; i < 3; i++) {
            if (times[i] > 0) {
                text.append(text.length() == 0 ? "" : ",").append(numbers[i]).append('*').append(times[i]);
            }
        }
        return text.toString();
    }

    private static final Sentences.Call[] QUESTIONS = {
        x -> x.shaft(0), x -> x.shaft(1), x -> x.lift(0), x -> x.lift(1), x -> x.row(0), x -> x.row(1), x -> x.lead(0, 0, 0),
        x -> x.lead(0, 0, 1), x -> x.lead(0, 0, 2), x -> x.lead(1, 1, 3), x -> x.longest(true, false),
        x -> x.longest(true, true), x -> x.longest(false, false), x -> x.longest(false, true), x -> x.floats(true, false, 0),
        x -> x.floats(true, true, 1), x -> x.floats(false, false, 1), x -> x.floats(false, true, 0),
        x -> x.layers(0, 2, 0, 2), x -> x.layer(0, 2, 0, 2, 0), x -> x.layer(0, 1, 0, 2, 3), x -> x.seenColour(0, 0),
        x -> x.seenColour(1, 1), x -> x.coloured(0), x -> x.coloured(5), x -> x.period(true, false), x -> x.period(true, true),
        x -> x.period(false, false), x -> x.period(false, true), x -> x.fewest(true), x -> x.fewest(false),
        x -> x.pegs(true), x -> x.pegs(false), x -> x.cover(-1), x -> x.cover(0), x -> x.wrong(0), x -> x.wrong(2),
        x -> x.nearest(0, 0), x -> x.nearest(0, 1), x -> x.mended(0), x -> x.mended(1), x -> x.mended(2),
        x -> x.mendedShaft(0), x -> x.mendedShaft(2), x -> x.shifted(true), x -> x.shifted(false), x -> x.about(5),
        x -> x.about(7)};

    /** What may change the answers. */
    private static final Sentences.Call[] CHANGES = {
        x -> x.thread(0, -1), x -> x.thread(2, 0), x -> x.tie(0, 6), x -> x.tie(1, 0), x -> x.tread(0, 3), x -> x.tread(1, 0),
        x -> x.colour(true, 0, 5), x -> x.colour(false, 1, 5), x -> Tapes.tell(x, "thread 1; tread 0;"),
        x -> x.look(0) ? 1 : 0, x -> x.look(1) ? 1 : 0, x -> x.seen(0, 7) ? 1 : 0, x -> x.seen(2, 2) ? 1 : 0};

    private static DraftHouse diagonal() {
        DraftHouse x = new DraftHouse(3, 3);
        Tapes.tell(x, "thread 0 to 2; tread 0 to 2; tie 0 0; tie 1 1; tie 2 2;");
        x.colour(true, 1, 5);
        x.tie(2, 5);
        x.seen(1, 2);
        return x;
    }

    /** Each question comes first behind each change, of an object that was asked all ahead of it. */
    private static void askedFirst() {
        Sentences.says("all is as it was told latest at or ahead of it");
        for (int c = 0; c < CHANGES.length; c++) {
            for (int q = 0; q < QUESTIONS.length; q++) {
                DraftHouse asked = diagonal();
                for (Sentences.Call question : QUESTIONS) {
                    question.on(asked);
                }
                CHANGES[c].on(asked);
                DraftHouse fresh = diagonal();
                CHANGES[c].on(fresh);
                fresh.row(0);
                due("question " + q + " behind change " + c, QUESTIONS[q].on(asked), QUESTIONS[q].on(fresh));
            }
        }
    }

    private static void rows() {
        Sentences.says("CELLS of a PICK that are UP, as bits by ENDS");
        for (int wide : SIZES) {
            DraftHouse x = plain(wide, 2, true);
            due("all UP", x.row(1), allBits(wide));
            for (int end : new int[] {0, wide / 2, wide - 1}) {
                x.thread(end, -1);
                due("all but END " + end, x.row(0), allBits(wide) & ~(1L << end));
                x.thread(end, 0);
            }
            due("row beyond", x.row(2), -1);
            due("row ahead", x.row(-1), -1);
            x.look(0);
            due("none UP", x.row(1), 0);
        }
    }

    private static void leads() {
        Sentences.says("1 the lowest TREADLE of the PICK's TREAD whose TIE has that SHAFT (NONE: none)");
        for (int low = 0; low < 16; low++) {
            DraftHouse x = new DraftHouse(1, 1);
            x.thread(0, 15);
            x.tread(0, 65535);
            due("lead 1 without TIES", x.lead(0, 0, 1), -1);
            x.tie(15, 32768);
            due("lead 1 by the highest", x.lead(0, 0, 1), 15);
            x.tie(low, 32768);
            due("lead 1 by " + low, x.lead(0, 0, 1), low);
            x.tread(0, 65535 ^ 1 << low);
            due("lead 1 without " + low, x.lead(0, 0, 1), low == 15 ? -1 : 15);
        }
        for (int size : SIZES) {
            // the last CELL alone has both an END with a SHAFT and a PICK with a TREAD
            for (int shaft : new int[] {0, 1, 15}) {
                DraftHouse x = new DraftHouse(size, 49 - size);
                x.thread(size - 1, shaft);
                x.tie(6, 1 << shaft);
                x.tread(48 - size, 64);
                due("0 of the last CELL", x.lead(size - 1, 48 - size, 0), shaft);
                due("1 of the last CELL", x.lead(size - 1, 48 - size, 1), 6);
                due("1 of the first CELL", x.lead(0, 0, 1), -1);
                x.tie(6, 65535 ^ 1 << shaft);
                due("1 of the last CELL, by other SHAFTS", x.lead(size - 1, 48 - size, 1), -1);
            }
        }
        Sentences.says("the TIME at which the END's SHAFT, the PICK's TREAD was told (NONE: never, by THE LOOK)");
        DraftHouse x = new DraftHouse(2, 2);
        x.thread(1, 5);
        x.tread(1, 3);
        x.thread(1, -1);
        x.tread(1, 0);
        int[] ends = {-1, 1, 1, 3, 3};
        int[] picks = {-1, -1, 2, 2, 4};
        for (int time = 0; time < 5; time++) {
            x.look(time);
            due("2 at " + time, x.lead(1, 1, 2), ends[time]);
            due("3 at " + time, x.lead(1, 1, 3), picks[time]);
            due("2 of another END", x.lead(0, 1, 2), -1);
            due("3 of another PICK", x.lead(1, 0, 3), -1);
        }
    }

    /** Runs of a and c at the edges of a line, and none else; a and c are one run if nothing is between them. */
    private static void dueFloats(DraftHouse x, boolean warp, int a, int b, int c) {
        String of = (warp ? "warp " : "weft ") + a + ", " + b + ", " + c;
        boolean whole = b == 0;
        int[] lengths = whole ? new int[] {a + c} : new int[] {a, c};
        int longest = 0;
        for (int length : lengths) {
            longest = Math.max(longest, length);
        }
        due("longest of " + of, x.longest(warp, false), longest);
        due("longest over of " + of, x.longest(warp, true), a + c);
        for (int n : new int[] {LOW, -1, 0, a - 1, a, a + 1, c - 1, c, c + 1, a + c - 1, a + c, a + c + 1, 47, 48, 49, FAR}) {
            int count = 0;
            for (int length : lengths) {
                count += length > 0 && length > n ? 1 : 0;
            }
            due("floats longer than " + n + " of " + of, x.floats(warp, false, n), count);
            due("floats over longer than " + n + " of " + of, x.floats(warp, true, n), a + c > 0 && a + c > n ? 1 : 0);
        }
    }

    private static void warpFloats() {
        Sentences.says("a run may go over the edge; one that is all of it is as long as it");
        for (int size : new int[] {1, 2, 3, 4, 16, 47, 48}) {
            for (int a = 0; a <= size; a++) {
                for (int c = 0; a + c <= size; c++) {
                    DraftHouse x = new DraftHouse(1, size);
                    x.thread(0, 0);
                    x.tie(0, 1);
                    due("tread", Tapes.tell(x, "tread " + runs(0, a, 1, size - a - c, c) + ";"), 3);
                    dueFloats(x, true, a, size - a - c, c);
                }
            }
        }
    }

    private static void weftFloats() {
        Sentences.says("of a PICK that aren't (weft floats), along .. (ENDS), as long as they go");
        for (int size : new int[] {1, 2, 3, 4, 16, 47, 48}) {
            for (int a = 0; a <= size; a++) {
                for (int c = 0; a + c <= size; c++) {
                    DraftHouse x = new DraftHouse(size, 1);
                    x.tread(0, 1);
                    x.tie(0, 2);
                    due("thread", Tapes.tell(x, "thread " + runs(0, a, 1, size - a - c, c) + ";"), 3);
                    dueFloats(x, false, a, size - a - c, c);
                }
            }
        }
    }

    private static void floatsAcross() {
        Sentences.says("FLOATS: runs of CELLS of an END that are UP .. of a PICK that aren't");
        for (int wide : SIZES) {
            for (int high : SIZES) {
                DraftHouse up = plain(wide, high, true);
                DraftHouse bare = plain(wide, high, false);
                for (boolean over : new boolean[] {false, true}) {
                    due("warp floats, all UP", up.longest(true, over), high);
                    due("weft floats, all UP", up.longest(false, over), 0);
                    due("warp floats, none UP", bare.longest(true, over), 0);
                    due("weft floats, none UP", bare.longest(false, over), wide);
                    due("warp floats below", up.floats(true, over, high - 1), wide);
                    due("warp floats at", up.floats(true, over, high), 0);
                    due("weft floats below", bare.floats(false, over, wide - 1), high);
                    due("weft floats at", bare.floats(false, over, wide), 0);
                    due("no weft floats", up.floats(false, over, -1), 0);
                    due("no warp floats", bare.floats(true, over, LOW), 0);
                }
            }
        }
    }

    private static void dueParts(int a, int b, int c, int d, boolean up) {
        DraftHouse x = plain(5, 4, up);
        boolean there = a >= 0 && b < 5 && a <= b && c >= 0 && d < 4 && c <= d;
        String part = a + ", " + b + ", " + c + ", " + d;
        int ends = b - a + 1;
        int picks = d - c + 1;
        due("layers(" + part + ")", x.layers(a, b, c, d), there ? ends + picks : -1);
        for (int strand = -1; strand <= 10; strand++) {
            int want = -1;
            if (there && strand >= a && strand <= b) {
                want = strand - a + (up ? 0 : picks);
            } else if (there && strand >= 5 + c && strand <= 5 + d) {
                want = strand - 5 - c + (up ? ends : 0);
            }
            due("layer(" + part + ", " + strand + ")", x.layer(a, b, c, d, strand), want);
        }
        due("layer of the lowest", x.layer(a, b, c, d, LOW), -1);
        due("layer of the highest", x.layer(a, b, c, d, FAR), -1);
    }

    private static void parts() {
        Sentences.says("ENDS from a to b, PICKS from c to d, all both too");
        for (int a = -1; a <= 5; a++) {
            for (int b = -1; b <= 5; b++) {
                for (int c = -1; c <= 4; c++) {
                    for (int d = -1; d <= 4; d++) {
                        dueParts(a, b, c, d, true);
                        dueParts(a, b, c, d, false);
                    }
                }
            }
        }
        for (int far : new int[] {LOW, LOW + 1, -64, 64, FAR - 1, FAR}) {
            dueParts(far, 4, 0, 3, true);
            dueParts(0, far, 0, 3, true);
            dueParts(0, 4, far, 3, true);
            dueParts(0, 4, 0, far, true);
            dueParts(far, far, far, far, true);
        }
    }

    private static void partsOfFullCloths() {
        Sentences.says("or a STRAND by itself");
        for (int wide : SIZES) {
            for (int high : SIZES) {
                due("all UP", plain(wide, high, true).layers(0, wide - 1, 0, high - 1), wide + high);
                due("none UP", plain(wide, high, false).layers(0, wide - 1, 0, high - 1), wide + high);
                due("one CELL", plain(wide, high, true).layers(wide - 1, wide - 1, high - 1, high - 1), 2);
                due("WIDE", plain(wide, high, true).layers(0, wide, 0, high - 1), -1);
                due("LONG", plain(wide, high, true).layers(0, wide - 1, 0, high), -1);
            }
        }
    }

    private static void strands() {
        Sentences.says("STRANDS: ENDS 0 .. WIDE - 1, then PICKS WIDE .. WIDE + LONG - 1");
        for (int wide : SIZES) {
            for (int high : SIZES) {
                DraftHouse x = plain(wide, high, true);
                int b = wide - 1;
                int d = high - 1;
                due("the first END", x.layer(0, b, 0, d, 0), 0);
                due("the last END", x.layer(0, b, 0, d, wide - 1), wide - 1);
                due("the first PICK", x.layer(0, b, 0, d, wide), wide);
                due("the last PICK", x.layer(0, b, 0, d, wide + high - 1), wide + high - 1);
                due("one beyond", x.layer(0, b, 0, d, wide + high), -1);
                due("one ahead", x.layer(0, b, 0, d, -1), -1);
                due("the last PICK alone", x.layer(b, b, d, d, wide + high - 1), 1);
                due("the last END alone", x.layer(b, b, d, d, wide - 1), 0);
                if (high > 1) {
                    due("a PICK ahead of the part", x.layer(b, b, d, d, wide + high - 2), -1);
                }
                if (wide > 1) {
                    due("an END ahead of the part", x.layer(b, b, d, d, wide - 2), -1);
                }
            }
        }
    }

    private static void holding() {
        Sentences.says("It HOLDS, if there is one LAYER");
        for (int wide : SIZES) {
            for (int high : SIZES) {
                DraftHouse x = new DraftHouse(wide, high);
                due("plain weave", Tapes.tell(x, "thread 0,1; tread 0,1; tie 0 0; tie 1 1;"), 1);
                boolean holds = wide > 1 && high > 1;
                due("layers", x.layers(0, wide - 1, 0, high - 1), holds ? 1 : wide + high);
                due("layer of the last", x.layer(0, wide - 1, 0, high - 1, wide + high - 1),
                    holds ? 0 : wide > 1 ? (wide + 1) / 2 : high % 2 == 0 ? high / 2 - 1 : high);
            }
        }
        // a chain that goes through all STRANDS: END i is above PICK i alone, PICK i above END i + 1 by none else
        DraftHouse chain = new DraftHouse(16, 16);
        for (int i = 0; i < 16; i++) {
            chain.thread(i, i);
            chain.tread(i, 1 << i);
            chain.tie(i, 1 << i);
        }
        due("one CELL UP on each PICK", chain.layers(0, 15, 0, 15), 1);
        due("its first two", chain.layers(0, 1, 0, 1), 1);
        due("without its first PICK", chain.layers(0, 1, 1, 1), 3);
        due("the last END", chain.layer(0, 15, 0, 15, 15), 0);
    }

    /** END 0 above PICK 0 above END 1 above PICK 1 and so on; or with the ENDS told from the last one on. */
    private static DraftHouse stairs(boolean turned) {
        DraftHouse x = new DraftHouse(16, 16);
        Tapes.tell(x, turned ? "thread 15 to 0;" : "thread 0 to 15;");
        for (int pick = 0; pick < 16; pick++) {
            x.tie(pick, (1 << pick + 1) - 1);
            x.tread(pick, 1 << pick);
        }
        return x;
    }

    private static void chains() {
        Sentences.says("STRANDS of the part each of which is ABOVE the other by some chain");
        for (boolean turned : new boolean[] {false, true}) {
            DraftHouse apart = stairs(turned);
            due("stairs", apart.layers(0, 15, 0, 15), 32);
            for (int i = 0; i < 16; i++) {
                due("END " + i, apart.layer(0, 15, 0, 15, turned ? 15 - i : i), 2 * i);
                due("PICK " + i, apart.layer(0, 15, 0, 15, 16 + i), 2 * i + 1);
            }
            // a lower PICK is laid above a higher END: all between them hold, by one chain that goes through all
            for (int top : new int[] {0, 1, 7, 14, 15}) {
                for (int low : new int[] {0, 1, 8, 14, 15}) {
                    if (top <= low) {
                        dueStairs(turned, top, low);
                    }
                }
            }
        }
    }

    private static void dueStairs(boolean turned, int top, int low) {
        DraftHouse x = stairs(turned);
        x.tie(low, (1 << low + 1) - 1 & ~(1 << top));
        String of = " of stairs from " + top + " to " + low;
        int held = top == low ? 1 : 2 * (low - top + 1);
        due("layers" + of, x.layers(0, 15, 0, 15), 32 - held + 1);
        for (int i = 0; i < 16; i++) {
            int end = x.layer(0, 15, 0, 15, turned ? 15 - i : i);
            int pick = x.layer(0, 15, 0, 15, 16 + i);
            if (top == low) {
                // the two have changed their places; then this END and the next one are both on top: first the lowest
                boolean later = turned && top < 15;
                due("END " + i + of, end, i == top ? 2 * i + (later ? 2 : 1) : 2 * i - (i == top + 1 && later ? 1 : 0));
                due("PICK " + i + of, pick, i == top ? 2 * i : 2 * i + 1);
            } else {
                due("END " + i + of, end, i < top ? 2 * i : i > low ? 2 * i - held + 1 : 2 * top);
                due("PICK " + i + of, pick, i < top ? 2 * i + 1 : i > low ? 2 * i + 1 - held + 1 : 2 * top);
            }
        }
        // without the END that the chain goes back to, all fall apart
        int first = turned ? 15 - top : top;
        if (first == 0) {
            due("without its END" + of, x.layers(1, 15, 0, 15), 31);
        } else if (first == 15) {
            due("without its END" + of, x.layers(0, 14, 0, 15), 31);
        }
        if (low == 15) {
            due("without its PICK" + of, x.layers(0, 15, 0, 14), 31);
        }
    }

    /** The same object is asked for parts that have three of their four bounds in common with the part ahead. */
    private static void partsInTurn() {
        Sentences.says("In a part of THE CLOTH (ENDS from a to b, PICKS from c to d, all both too)");
        int[][] parts = {{0, 15, 0, 15}, {0, 14, 0, 15}, {0, 15, 0, 15}, {0, 15, 0, 14}, {0, 15, 0, 15}, {1, 15, 0, 15},
            {0, 15, 0, 15}, {0, 15, 1, 15}, {0, 15, 0, 15}, {4, 4, 4, 4}, {4, 5, 4, 4}, {4, 5, 4, 5}, {3, 5, 4, 5}, {3, 5, 3, 5},
            {3, 3, 3, 5}, {3, 3, 3, 3}, {0, 0, 0, 0}, {0, 15, 0, 15}};
        for (boolean turned : new boolean[] {false, true}) {
            DraftHouse asked = stairs(turned);
            asked.tie(12, 4094);
            for (int[] p : parts) {
                DraftHouse fresh = stairs(turned);
                fresh.tie(12, 4094);
                due("layers", asked.layers(p[0], p[1], p[2], p[3]), fresh.layers(p[0], p[1], p[2], p[3]));
                for (int strand : new int[] {0, 3, 4, 5, 15, 16, 19, 20, 21, 31}) {
                    due("layer of " + strand, asked.layer(p[0], p[1], p[2], p[3], strand),
                        fresh.layer(p[0], p[1], p[2], p[3], strand));
                }
                due("layers again", asked.layers(p[0], p[1], p[2], p[3]), fresh.layers(p[0], p[1], p[2], p[3]));
            }
        }
    }

    private static DraftHouse rich() {
        DraftHouse x = new DraftHouse(4, 3);
        Tapes.tell(x, "thread 0 to 2; tie 0 0,1; tie 1 1,2; tie 2 2,0; tread 0 to 2;");
        x.colour(true, 1, 7);
        x.colour(false, 0, 3);
        x.tie(2, 5);
        x.seen(0, 6);
        x.seen(2, 9);
        Tapes.put(x, "tie 0 2;");
        x.look(3);
        return x;
    }

    private static void refused(String what, Sentences.Call call, long answer) {
        Sentences.refused(what, ClothBounds::rich, call, answer);
    }

    private static void refusedParts() {
        Sentences.says("NONE for others, and a STRAND that isn't of the part");
        refused("layers from -1", x -> x.layers(-1, 3, 0, 2), -1);
        refused("layers to WIDE", x -> x.layers(0, 4, 0, 2), -1);
        refused("layers up to LONG", x -> x.layers(0, 3, 0, 3), -1);
        refused("layers down", x -> x.layers(2, 1, 0, 2), -1);
        refused("layers down", x -> x.layers(0, 3, 1, 0), -1);
        refused("layer of STRAND 7", x -> x.layer(0, 3, 0, 2, 7), -1);
        refused("layer of STRAND -1", x -> x.layer(0, 3, 0, 2, -1), -1);
        refused("layer of END 0 in a part from 1", x -> x.layer(1, 3, 0, 2, 0), -1);
        refused("layer of END 3 in a part to 2", x -> x.layer(0, 2, 0, 2, 3), -1);
        refused("layer of PICK 0 in a part from 1", x -> x.layer(0, 3, 1, 2, 4), -1);
        refused("layer of PICK 2 in a part to 1", x -> x.layer(0, 3, 0, 1, 6), -1);
    }

    private static void cellColours() {
        Sentences.says("COLOUR of a CELL: the END's if it is UP, else the PICK's");
        for (int wide : SIZES) {
            for (int high : SIZES) {
                DraftHouse x = plain(wide, high, true);
                due("colour", x.colour(true, wide - 1, 9), 3);
                due("colour", x.colour(false, high - 1, 8), 4);
                due("UP", x.seenColour(wide - 1, high - 1), 9);
                x.thread(wide - 1, -1);
                due("not UP", x.seenColour(wide - 1, high - 1), 8);
                x.look(3);
                due("not told yet", x.seenColour(wide - 1, high - 1), 9);
                x.look(0);
                due("none told", x.seenColour(wide - 1, high - 1), 0);
                due("beyond WIDE", x.seenColour(wide, 0), -1);
                due("beyond LONG", x.seenColour(0, high), -1);
                due("below 0", x.seenColour(-1, 0), -1);
                due("below 0", x.seenColour(0, -1), -1);
            }
        }
    }

    private static void colouredCells() {
        Sentences.says("How many CELLS have a COLOUR. NONE for others");
        for (int wide : SIZES) {
            for (int high : SIZES) {
                for (boolean up : new boolean[] {true, false}) {
                    DraftHouse x = plain(wide, high, up);
                    due("all CELLS", x.coloured(0), wide * high);
                    x.colour(true, wide - 1, 9);
                    x.colour(false, high - 1, 9);
                    due("of the last thread", x.coloured(9), up ? high : wide);
                    due("the others", x.coloured(0), wide * high - (up ? high : wide));
                    due("none", x.coloured(8), 0);
                    due("-1", x.coloured(-1), -1);
                    due("10", x.coloured(10), -1);
                    due("lowest", x.coloured(LOW), -1);
                    due("highest", x.coloured(FAR), -1);
                }
            }
        }
    }

    /** Every so many places one of SHAFT (or TREADLE) 1, the others 0. */
    private static String every(int n) {
        return n == 1 ? "1" : "1,0*" + (n - 1);
    }

    private static void periodsOfCells() {
        Sentences.says("the least n from 1 on .. ; WIDE (LONG) if none is below it");
        for (int size : new int[] {1, 2, 3, 4, 46, 47, 48}) {
            for (int n = 1; n <= 48; n++) {
                DraftHouse x = new DraftHouse(size, 2);
                due("thread", Tapes.tell(x, "thread " + every(n) + "; tie 0 1; tread 0;"), 1);
                due("along ENDS, " + n + " of " + size, x.period(true, false), Math.min(n, size));
                due("along PICKS", x.period(false, false), 1);
                DraftHouse y = new DraftHouse(2, size);
                due("tread", Tapes.tell(y, "tread " + every(n) + "; tie 1 0; thread 0;"), 1);
                due("along PICKS, " + n + " of " + size, y.period(false, false), Math.min(n, size));
                due("along ENDS", y.period(true, false), 1);
            }
        }
        // 47 apart are only the first one and the last one
        DraftHouse x = new DraftHouse(48, 1);
        Tapes.tell(x, "thread 1,0*46,1; tie 0 1; tread 0;");
        due("the first and the last are like", x.period(true, false), 47);
        x.thread(47, 0);
        due("the first and the last aren't", x.period(true, false), 48);
    }

    private static void periodsOfColours() {
        Sentences.says("all COLOURS (or all CELLS, told which) that lie n apart");
        for (int size : new int[] {1, 2, 3, 47, 48}) {
            for (int n : new int[] {1, 2, 3, 24, 46, 47, 48}) {
                DraftHouse x = plain(size, 2, true);
                DraftHouse y = plain(2, size, false);
                for (int i = 0; i < size; i += n) {
                    x.colour(true, i, 9);
                    y.colour(false, i, 9);
                }
                due("along ENDS, " + n + " of " + size, x.period(true, true), Math.min(n, size));
                due("along PICKS", x.period(false, true), 1);
                due("CELLS along ENDS", x.period(true, false), 1);
                due("along PICKS, " + n + " of " + size, y.period(false, true), Math.min(n, size));
                due("along ENDS", y.period(true, true), 1);
                due("CELLS along PICKS", y.period(false, false), 1);
            }
        }
        // the END's COLOUR and the PICK's are like, where CELLS aren't; and the other way round
        DraftHouse mixed = diagonal();
        due("CELLS", mixed.period(true, false), 3);
        for (int i = 0; i < 3; i++) {
            mixed.colour(true, i, 6);
            mixed.colour(false, i, 6);
        }
        due("COLOURS along ENDS", mixed.period(true, true), 1);
        due("COLOURS along PICKS", mixed.period(false, true), 1);
        mixed.colour(false, 2, 9);
        due("COLOURS along ENDS, the last PICK unlike", mixed.period(true, true), 2);
        due("COLOURS along PICKS, the last PICK unlike", mixed.period(false, true), 3);
        mixed.colour(false, 2, 6);
        mixed.colour(true, 2, 9);
        due("COLOURS along ENDS, the last END unlike", mixed.period(true, true), 3);
        due("COLOURS along PICKS, the last END unlike", mixed.period(false, true), 3);
        // each two of the ten COLOURS are unlike
        for (int a = 0; a < 10; a++) {
            for (int b = 0; b < 10; b++) {
                DraftHouse x = plain(2, 1, true);
                x.colour(true, 0, a);
                x.colour(true, 1, b);
                due("COLOURS " + a + ", " + b, x.period(true, true), a == b ? 1 : 2);
            }
        }
    }

    private static void fewestShafts() {
        Sentences.says("FEWEST SHAFTS: how many unlike columns (CELLS of an END) that aren't all not UP");
        for (int n = 0; n <= 16; n++) {
            for (int wide : new int[] {16, 17, 48}) {
                DraftHouse x = new DraftHouse(wide, 48);
                Tapes.tell(x, "thread 0 to 15; tread 0 to 15;");
                for (int shaft = 0; shaft < n; shaft++) {
                    x.tie(shaft, 1 << shaft);
                }
                due("unlike columns of " + n, x.fewest(false), n);
                due("unlike rows of " + n, x.fewest(true), n);
            }
        }
        due("all UP", plain(48, 48, true).fewest(false), 1);
        due("none UP", plain(48, 48, false).fewest(false), 0);
        due("one CELL UP", plain(1, 1, true).fewest(false), 1);
        due("one CELL not UP", plain(1, 1, false).fewest(false), 0);
        // columns that are unlike on the last PICK alone
        DraftHouse x = plain(48, 48, true);
        x.thread(47, 3);
        x.tie(1, 9);
        x.tie(0, 9);
        due("two SHAFTS that are like", x.fewest(false), 1);
        x.tie(1, 1);
        x.tread(47, 2);
        due("unlike on the last PICK", x.fewest(false), 2);
    }

    private static void fewestTreadles() {
        Sentences.says("FEWEST TREADLES, one at a time: how many unlike rows (of a PICK) with some UP");
        for (int n = 0; n <= 48; n++) {
            DraftHouse x = new DraftHouse(16, 48);
            Tapes.tell(x, "thread 0 to 15;");
            for (int treadle = 0; treadle < 16; treadle++) {
                x.tie(treadle, 1 << treadle);
            }
            for (int pick = 0; pick < n; pick++) {
                x.tread(47 - pick, (pick + 1) * 1021 & 65535);
            }
            due("unlike rows of " + n, x.fewest(true), n);
        }
        due("all UP", plain(48, 48, true).fewest(true), 1);
        due("none UP", plain(48, 48, false).fewest(true), 0);
        DraftHouse x = plain(48, 48, true);
        x.tread(47, 0);
        due("the last PICK has none UP", x.fewest(true), 1);
        x.tie(1, 1);
        x.tread(46, 2);
        due("LIFTS by unlike TREADLES are like", x.fewest(true), 1);
        x.thread(47, 1);
        x.tie(1, 3);
        due("unlike on the last END", x.fewest(true), 2);
    }

    private static void pegs() {
        Sentences.says("PEGS: CELLS of SHAFTS and PICKS that are in a LIFT; TURNED: those that aren't (of SHAFTS that some END has)");
        for (int wide : SIZES) {
            for (int high : SIZES) {
                DraftHouse x = new DraftHouse(wide, high);
                Tapes.tell(x, "thread 0 to 15;");
                int used = Math.min(16, wide);
                due("none lifted", x.pegs(false), 0);
                due("none lifted, turned", x.pegs(true), used * high);
                Tapes.tell(x, "tread 15; tie 15 0 to 15;");
                due("all lifted", x.pegs(false), 16 * high);
                due("all lifted, turned", x.pegs(true), 0);
                x.tread(high - 1, 0);
                due("one PICK less", x.pegs(false), 16 * (high - 1));
                due("one PICK less, turned", x.pegs(true), used);
                x.look(0);
                due("at first", x.pegs(false), 0);
                due("at first, turned", x.pegs(true), 0);
            }
        }
        DraftHouse x = new DraftHouse(2, 2);
        x.thread(1, 15);
        due("SHAFT 15", x.pegs(true), 2);
        x.thread(0, 15);
        due("SHAFT 15 twice", x.pegs(true), 2);
        x.thread(0, 0);
        due("SHAFTS 0 and 15", x.pegs(true), 4);
    }

    /** As many PICKS as LIFTS, of 16 SHAFTS that all have ENDS. */
    private static DraftHouse lifted(int... lifts) {
        DraftHouse x = new DraftHouse(16, lifts.length);
        Tapes.tell(x, "thread 0 to 15;");
        for (int treadle = 0; treadle < 16; treadle++) {
            x.tie(treadle, 1 << treadle);
        }
        for (int pick = 0; pick < lifts.length; pick++) {
            x.tread(pick, lifts[pick]);
        }
        return x;
    }

    /** Null: NONE. */
    private static void dueCover(String of, DraftHouse x, int... ties) {
        due("cover(NONE) of " + of, x.cover(-1), ties == null ? -1 : ties.length);
        int size = ties == null ? 0 : ties.length;
        for (int i = 0; i < 7; i++) {
            due("cover(" + i + ") of " + of, x.cover(i), i < size ? ties[i] : -1);
        }
        for (int i : new int[] {LOW, -3, -2, 31, 32, FAR}) {
            due("cover(" + i + ") of " + of, x.cover(i), -1);
        }
    }

    private static void coverLifts() {
        Sentences.says("the unlike LIFTS .. that aren't empty; 5 of them at most. NONE if .. more than 5 LIFTS");
        int[] singles = {1, 2, 4, 8, 16, 32, 64};
        for (int n = 1; n <= 7; n++) {
            int[] lifts = java.util.Arrays.copyOf(singles, n);
            dueCover(n + " LIFTS", lifted(lifts), n > 5 ? null : lifts);
            // like ones count once, and empty ones don't
            int[] many = new int[48];
            for (int pick = 0; pick < 48; pick++) {
                many[pick] = pick % (n + 1) == n ? 0 : lifts[pick % (n + 1)];
            }
            dueCover(n + " LIFTS on 48 PICKS", lifted(many), n > 5 ? null : lifts);
        }
        dueCover("no LIFT", new DraftHouse(48, 48));
        dueCover("empty LIFTS", lifted(0, 0, 0));
        // the sixth LIFT comes on the last PICK
        int[] late = new int[48];
        for (int pick = 0; pick < 48; pick++) {
            late[pick] = singles[pick % 5];
        }
        dueCover("five LIFTS", lifted(late), 1, 2, 4, 8, 16);
        late[47] = 32;
        dueCover("the sixth on the last PICK", lifted(late), (int[]) null);

        Sentences.says("as sets of those SHAFTS that some END has");
        DraftHouse x = lifted(1, 2, 4, 8, 16, 32);
        x.thread(5, -1);
        dueCover("the sixth has no END", x, 1, 2, 4, 8, 16);
        x.thread(5, 5);
        dueCover("the sixth has one", x, (int[]) null);
        x.thread(5, 4);
        dueCover("its END has another", x, 1, 2, 4, 8, 16);
        DraftHouse like = lifted(1, 3, 5, 9, 17, 33);
        for (int end = 1; end < 16; end++) {
            like.thread(end, 0);
        }
        dueCover("like but for SHAFTS without END", like, 1);
        DraftHouse none = lifted(1, 2, 4);
        none.look(0);
        dueCover("none at TIME 0", none);
        none.look(1);
        dueCover("no TIES at TIME 1", none);
    }

    private static void coverTies() {
        Sentences.says("The fewest TIES, each one not empty and just what some of these LIFTS (one or more) have in common");
        dueCover("one LIFT", lifted(65535), 65535);
        dueCover("SHAFT 15", lifted(32768), 32768);
        dueCover("two apart", lifted(32768, 1), 1, 32768);
        dueCover("two and both", lifted(32768, 1, 32769), 1, 32768);
        dueCover("both only", lifted(32769), 32769);
        dueCover("1 is in 3, but 2 isn't in common", lifted(1, 3), 1, 3);
        dueCover("1, 2 and both", lifted(3, 1, 2), 1, 2);
        dueCover("in common of two", lifted(6, 12, 4), 4, 6, 12);
        dueCover("five of three", lifted(1, 2, 4, 3, 6), 1, 2, 4);
        dueCover("five of three, all in common", lifted(3, 5, 6, 7, 1), 1, 2, 4);
        dueCover("three by what two each have in common", lifted(7, 11, 13), 3, 5, 9);
        dueCover("three by three of their own", lifted(3, 6, 12), 3, 6, 12);
        // all 31 choices of five LIFTS have unlike sets in common
        dueCover("31 sets in common", lifted(62, 61, 59, 55, 47), 35, 44, 53, 58);
        dueCover("31 sets in common on 16 SHAFTS", lifted(43895, 52667, 61917, 65054, 65504), 43895, 52667, 61917, 65054, 65504);
        dueCover("31 sets in common on 16 SHAFTS", lifted(61141, 56755, 48015, 30847, 2047), 2047, 30847, 48015, 56755, 61141);
        Sentences.says("of like many the first by their sets as numbers, put by rising ones");
        dueCover("1, 2, 4 ahead of 3, 5, 6", lifted(3, 5, 6, 7), 1, 2, 4);
        dueCover("rising", lifted(16, 8, 4, 2, 1), 1, 2, 4, 8, 16);
        dueCover("rising", lifted(32768, 16384, 49152), 16384, 32768);
    }

    private static void coverIndex() {
        Sentences.says("how many TIES (i NONE), the i-th of them. NONE if there is none such");
        DraftHouse x = lifted(1, 2, 4);
        due("cover(-1)", x.cover(-1), 3);
        due("cover(0)", x.cover(0), 1);
        due("cover(2)", x.cover(2), 4);
        due("cover(3)", x.cover(3), -1);
        due("cover(-2)", x.cover(-2), -1);
        refused("cover(3)", y -> y.cover(3), -1);
        refused("cover(-2)", y -> y.cover(-2), -1);
        due("cover(-1) at first", new DraftHouse(1, 1).cover(-1), 0);
        due("cover(0) at first", new DraftHouse(1, 1).cover(0), -1);
    }

    private static void seenBits() {
        Sentences.says("bits beyond WIDE don't count");
        for (int wide : SIZES) {
            DraftHouse x = new DraftHouse(wide, 2);
            due("seen beyond alone", x.seen(1, -1L << wide) ? 1 : 0, 1);
            for (int end = 0; end < wide; end++) {
                due("wrong(" + end + ")", x.wrong(end), 0);
            }
            due("shifted", x.shifted(true), 0);
            due("mended", x.mended(0), 0);
            due("seen", x.seen(1, -1L) ? 1 : 0, 1);
            for (int end = 0; end < wide; end++) {
                due("wrong(" + end + ")", x.wrong(end), 1);
            }
            due("seen the last END", x.seen(1, 1L << wide - 1) ? 1 : 0, 1);
            due("wrong of the last END", x.wrong(wide - 1), 1);
            due("wrong of the first", x.wrong(0), wide == 1 ? 1 : 0);
            due("seen one beyond", x.seen(1, 1L << wide) ? 1 : 0, 1);
            due("wrong of the last END", x.wrong(wide - 1), 0);
            DraftHouse up = plain(wide, 1, true);
            up.seen(0, -1L);
            due("all as seen", up.wrong(wide - 1), 0);
            due("all as seen", up.mended(0), 0);
            due("all as seen", up.shifted(false), 0);
        }
        Sentences.says("False: no such PICK");
        for (int pick : new int[] {LOW, -1, 3, 4, 48, FAR}) {
            refused("seen(" + pick + ", -1)", x -> x.seen(pick, -1L) ? 1 : 0, 0);
        }
        Sentences.says("SEEN: rows of a cloth that was seen (.. at first none UP)");
        due("wrong at first", plain(48, 48, true).wrong(47), 48);
        due("wrong at first", plain(48, 48, false).wrong(47), 0);
        // no telling and no LOOK changes it
        DraftHouse x = plain(3, 2, true);
        x.seen(0, 5);
        x.look(0);
        due("by THE LOOK", x.wrong(0), 1);
        x.thread(1, -1);
        due("behind a telling", x.wrong(1), 0);
        due("behind a telling", x.wrong(0), 1);
        due("TIME", x.about(2), 3);
    }

    private static void wrongs() {
        Sentences.says("WRONG of an END: on how many PICKS its SEEN CELL is unlike THE CLOTH's");
        for (int high : SIZES) {
            DraftHouse up = plain(2, high, true);
            for (int pick = 0; pick < high; pick++) {
                due("wrong(0)", up.wrong(0), high - pick);
                due("wrong(1)", up.wrong(1), high);
                up.seen(pick, 1);
            }
            due("wrong(0)", up.wrong(0), 0);
            due("wrong(1)", up.wrong(1), high);
            due("wrong(2)", up.wrong(2), -1);
            due("wrong(-1)", up.wrong(-1), -1);
        }
    }

    private static void nearestOnes() {
        Sentences.says("of like ones its own one, then NONE, then the lowest");
        for (int own = -1; own < 16; own++) {
            DraftHouse x = new DraftHouse(1, 4);
            x.thread(0, own);
            // all SHAFTS are like NONE
            due("all like", x.nearest(0, 0), own);
            due("unlike", x.nearest(0, 1), 0);
            // all SHAFTS are like on PICK 0, where SEEN is UP, and NONE isn't
            x.tie(0, 65535);
            x.tread(0, 1);
            x.seen(0, 1);
            due("all but NONE", x.nearest(0, 0), own < 0 ? 0 : own);
            due("unlike", x.nearest(0, 1), 0);
            // now none is better than another: SEEN is UP on another PICK too, but not on the one that they lift
            x.seen(0, 0);
            x.seen(1, 1);
            x.tie(0, own < 0 ? 65535 : 65535 ^ 1 << own);
            due("its own one or NONE", x.nearest(0, 0), own);
            due("unlike", x.nearest(0, 1), 1);
            x.tie(0, 65535);
            due("NONE", x.nearest(0, 0), -1);
            due("unlike", x.nearest(0, 1), 1);
            due("what -1", x.nearest(0, -1), -2);
            due("what 2", x.nearest(0, 2), -2);
        }
        Sentences.says("on how many PICKS it is unlike");
        for (int high : SIZES) {
            DraftHouse x = new DraftHouse(1, high);
            for (int pick = 0; pick < high; pick++) {
                x.seen(pick, 1);
            }
            due("unlike on all PICKS", x.nearest(0, 1), high);
            due("nearest", x.nearest(0, 0), -1);
            x.tie(15, 32768);
            x.tread(high - 1, 32768);
            due("SHAFT 15", x.nearest(0, 0), 15);
            due("unlike on all but one", x.nearest(0, 1), high - 1);
        }
    }

    private static void dueMended(String of, DraftHouse x, int cost, int treadle, int shaft) {
        due("mended(0) of " + of, x.mended(0), cost);
        due("mended(1) of " + of, x.mended(1), treadle);
        due("mended(2) of " + of, x.mended(2), shaft);
        due("mended(3) of " + of, x.mended(3), -2);
        due("mended(-1) of " + of, x.mended(-1), -2);
        due("mendedShaft(-1) of " + of, x.mendedShaft(-1), -2);
        due("mendedShaft(WIDE) of " + of, x.mendedShaft(x.about(0)), -2);
    }

    private static void mendedCosts() {
        Sentences.says("each END that gets another SHAFT (or NONE) costs 1");
        for (int wide : SIZES) {
            DraftHouse x = new DraftHouse(wide, 2);
            // two TIES lift them, so that one TIE with one SHAFT less isn't enough
            Tapes.tell(x, "thread 0; tie 0 0; tie 1 0; tread 0, 1;");
            for (int less = 0; less <= wide; less += wide > 3 ? 4 : 1) {
                x.seen(0, allBits(wide - less));
                x.seen(1, allBits(wide - less));
                dueMended(less + " ENDS", x, less, -1, -1);
                due("the first END", x.mendedShaft(0), less == wide ? -1 : 0);
                due("the last END", x.mendedShaft(wide - 1), less == 0 ? 0 : -1);
            }
        }
        Sentences.says("one TIE with one SHAFT more or less costs 1 (one such at most)");
        for (int wide : SIZES) {
            // no END has a SHAFT: all get one, and a TIE gets it
            DraftHouse x = new DraftHouse(wide, 2);
            x.tread(1, 32768);
            x.seen(1, -1L);
            dueMended("all ENDS and a TIE", x, wide + 1, 15, 0);
            due("the last END", x.mendedShaft(wide - 1), 0);
            // all have SHAFT 15: the TIE alone
            Tapes.tell(x, "thread 15;");
            dueMended("a TIE alone", x, 1, 15, 15);
            due("the last END", x.mendedShaft(wide - 1), 15);
            // two TIES would be needed
            x.seen(0, -1L);
            x.tread(0, 1);
            dueMended("two TIES", x, -2, -2, -2);
            due("the last END", x.mendedShaft(wide - 1), -2);
        }
        // one SHAFT less, where no SHAFT has that row otherwise
        DraftHouse less = new DraftHouse(3, 2);
        Tapes.tell(less, "thread 0; tie 14 0; tie 15 0; tread 14, 15;");
        less.seen(0, 7);
        dueMended("a TIE with one SHAFT less", less, 1, 15, 0);
        less.seen(0, 0);
        less.seen(1, 7);
        dueMended("a TIE with one SHAFT less", less, 1, 14, 0);
    }

    private static void mendedOrder() {
        Sentences.says("of like ones without a change of TIES, then the one by the lowest TREADLE, then SHAFT");
        // one END: NONE costs 1, a TIE less costs 1
        DraftHouse x = plain(1, 1, true);
        dueMended("an END or a TIE", x, 1, -1, -1);
        due("mendedShaft(0)", x.mendedShaft(0), -1);
        for (int low = 0; low < 16; low++) {
            DraftHouse y = new DraftHouse(2, 1);
            y.thread(0, 9);
            y.thread(1, 9);
            y.tread(0, 65535 & -1 << low);
            y.seen(0, 3);
            dueMended("TREADLES from " + low + " on", y, 1, low, 9);
            // without SHAFTS, each SHAFT would do: the lowest
            y.thread(0, -1);
            y.thread(1, -1);
            dueMended("SHAFTS from 0 on", y, 3, low, 0);
        }
        // either of two SHAFTS, one END each: the lowest
        DraftHouse z = new DraftHouse(2, 1);
        z.thread(0, 15);
        z.thread(1, 14);
        z.tread(0, 1);
        z.seen(0, 3);
        dueMended("SHAFT 14 or 15", z, 2, 0, 14);
        due("mendedShaft(0)", z.mendedShaft(0), 14);
        due("mendedShaft(1)", z.mendedShaft(1), 14);
    }

    private static void mendedNone() {
        Sentences.says("-2: none is there, and for others");
        DraftHouse x = new DraftHouse(2, 2);
        dueMended("bare", x, 0, -1, -1);
        x.seen(0, 1);
        dueMended("no TREAD", x, -2, -2, -2);
        due("mendedShaft(0)", x.mendedShaft(0), -2);
        due("mendedShaft(1)", x.mendedShaft(1), -2);
        x.tread(0, 1);
        dueMended("a TREAD", x, 2, 0, 0);
        x.look(0);
        dueMended("by THE LOOK", x, -2, -2, -2);
        for (int end : new int[] {LOW, -2, -1, 4, 5, 48, FAR}) {
            refused("mendedShaft(" + end + ")", y -> y.mendedShaft(end), -2);
        }
    }

    private static void shiftedBounds() {
        Sentences.says("SEEN is THE CLOTH moved by dx ENDS and dy PICKS, over and over");
        for (int wide : SIZES) {
            for (int high : SIZES) {
                for (int dx : new int[] {0, 1, wide / 2, wide - 1}) {
                    for (int dy : new int[] {0, 1, high / 2, high - 1}) {
                        // one CELL in a corner, by turns the first and the last one
                        int end = (dx + dy) % 2 == 0 ? 0 : wide - 1;
                        int pick = (dx + dy) % 2 == 0 ? 0 : high - 1;
                        DraftHouse x = new DraftHouse(wide, high);
                        x.thread(end, 0);
                        x.tie(0, 1);
                        x.tread(pick, 1);
                        x.seen((pick + dy) % high, 1L << (end + dx) % wide);
                        due("dx " + dx + " of " + wide, x.shifted(true), dx % wide);
                        due("dy " + dy + " of " + high, x.shifted(false), dy % high);
                    }
                }
            }
        }
    }

    private static void shiftedFirst() {
        Sentences.says("the first by dy, then dx");
        // a twill of 4 on 48: dy alone, dx alone or both would do
        for (int by = 0; by < 4; by++) {
            DraftHouse x = new DraftHouse(48, 48);
            Tapes.tell(x, "thread 0 to 3; tread 0 to 3; tie 0 0; tie 1 1; tie 2 2; tie 3 3;");
            for (int pick = 0; pick < 48; pick++) {
                x.seen((pick + by) % 48, 0x111111111111L << pick % 4);
            }
            due("dy of a twill moved by " + by, x.shifted(false), 0);
            due("dx of a twill moved by " + by, x.shifted(true), (4 - by) % 4);
        }
        due("bare", new DraftHouse(48, 48).shifted(true), 0);
        due("bare", new DraftHouse(48, 48).shifted(false), 0);
        Sentences.says("NONE: it isn't");
        DraftHouse x = plain(2, 2, true);
        due("none seen", x.shifted(true), -1);
        due("none seen", x.shifted(false), -1);
        x.seen(0, 3);
        x.seen(1, 1);
        due("one less", x.shifted(true), -1);
        x.seen(1, 3);
        due("all", x.shifted(true), 0);
        due("all", x.shifted(false), 0);
        x.look(0);
        due("by THE LOOK", x.shifted(true), -1);
        // as many UP, but turned
        DraftHouse y = new DraftHouse(3, 3);
        y.thread(0, 0);
        y.tie(0, 1);
        Tapes.tell(y, "tread 0;");
        y.seen(0, 7);
        due("a row isn't a column", y.shifted(true), -1);
        due("a row isn't a column", y.shifted(false), -1);
    }
}
