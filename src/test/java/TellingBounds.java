/** The bounds of promises 1 to 7, 10 and 31 and of part I of the terms: below, at and beyond each, and what is refused. */
public final class TellingBounds {
    private static final int LOW = Integer.MIN_VALUE;
    private static final int FAR = Integer.MAX_VALUE;
    private static final int[] SIZES = {1, 2, 3, 47, 48};

    public static void main(String[] args) {
        sizes();
        atFirst();
        ends();
        picks();
        shafts();
        treadles();
        setsOfTies();
        setsOfTreads();
        colours();
        times();
        entriesByHand();
        entriesByTexts();
        latestAtOrAhead();
        looks();
        lookBehindTellings();
        feeds();
        ending();
        whats();
        Sentences.finish();
    }

    private static void due(String what, long got, long want) {
        Sentences.due(what, got, want);
    }

    private static void due(String what, boolean got, boolean want) {
        Sentences.due(what, got, want);
    }

    /** 4 ENDS, 3 PICKS, all kinds of tellings, a FAULT, a tape and rows of SEEN; THE LOOK is ahead of the latest TIME. */
    private static DraftHouse rich() {
        DraftHouse x = new DraftHouse(4, 3);
        Tapes.tell(x, "thread 0 to 2; tie 0 0,1; tie 1 1,2; tie 2 2,0; tread 0 to 2;");
        x.thread(3, 5);
        x.tie(2, 33);
        x.tread(1, 6);
        x.colour(true, 1, 7);
        x.colour(false, 0, 3);
        x.thread(0, -1);
        x.seen(0, 6);
        x.seen(2, 9);
        Tapes.tell(x, "tie 0 16;");
        Tapes.put(x, "thread 9; tie 0 7;");
        x.look(5);
        return x;
    }

    private static void refused(String what, Sentences.Call call) {
        Sentences.refused(what, TellingBounds::rich, call, -1);
    }

    private static void refused(String what, Sentences.Call call, long answer) {
        Sentences.refused(what, TellingBounds::rich, call, answer);
    }

    private static int nearestSize(int n) {
        return n < 1 ? 1 : n > 48 ? 48 : n;
    }

    private static void sizes() {
        Sentences.says("WIDE and LONG (1 to 48; others: the nearest of these)");
        int[] sizes = {LOW, LOW + 1, -48, -1, 0, 1, 2, 47, 48, 49, 50, 64, 96, FAR - 1, FAR};
        for (int w : sizes) {
            for (int h : sizes) {
                DraftHouse x = new DraftHouse(w, h);
                String of = " of " + w + ", " + h;
                int wide = nearestSize(w);
                int high = nearestSize(h);
                due("about(0)" + of, x.about(0), wide);
                due("about(1)" + of, x.about(1), high);
                due("thread the last END" + of, x.thread(wide - 1, 0), 1);
                due("thread one beyond" + of, x.thread(wide, 0), -1);
                due("tread the last PICK" + of, x.tread(high - 1, 1), 2);
                due("tread one beyond" + of, x.tread(high, 1), -1);
                due("all CELLS" + of, x.coloured(0), wide * high);
                x.tie(0, 1);
                due("the last CELL" + of, x.row(high - 1), 1L << wide - 1);
                due("UP" + of, x.about(5), 1);
            }
        }
    }

    private static void atFirst() {
        Sentences.says("without, no SHAFT, empty sets, COLOUR 0");
        for (int size : SIZES) {
            DraftHouse x = new DraftHouse(size, 49 - size);
            for (int what = 2; what < 8; what++) {
                due("about(" + what + ") at first", x.about(what), 0);
            }
            for (int end : new int[] {0, size - 1}) {
                due("shaft at first", x.shaft(end), -1);
                due("lead 0 at first", x.lead(end, 0, 0), -1);
                due("lead 1 at first", x.lead(end, 0, 1), -1);
                due("lead 2 at first", x.lead(end, 0, 2), -1);
                due("wrong at first", x.wrong(end), 0);
                due("nearest at first", x.nearest(end, 0), -1);
                due("mendedShaft at first", x.mendedShaft(end), -1);
                due("seenColour at first", x.seenColour(end, 48 - size), 0);
            }
            for (int pick : new int[] {0, 48 - size}) {
                due("lift at first", x.lift(pick), 0);
                due("row at first", x.row(pick), 0);
                due("lead 3 at first", x.lead(0, pick, 3), -1);
            }
            for (int colour = 1; colour < 10; colour++) {
                due("coloured at first", x.coloured(colour), 0);
            }
            due("look(0) at first", x.look(0), true);
            due("look(1) at first", x.look(1), false);
            due("cover at first", x.cover(-1), 0);
            due("mended at first", x.mended(0), 0);
            due("shifted at first", x.shifted(true), 0);
        }
        // an END told and told NONE behind it, and sets told empty, are as those never told
        DraftHouse x = new DraftHouse(1, 1);
        x.thread(0, 0);
        x.tie(0, 1);
        x.tread(0, 1);
        due("UP", x.about(5), 1);
        x.thread(0, -1);
        due("UP without SHAFT", x.about(5), 0);
        x.thread(0, 0);
        x.tread(0, 0);
        due("UP without TREAD", x.about(5), 0);
        x.tread(0, 1);
        x.tie(0, 0);
        due("UP without TIE", x.about(5), 0);
        x.tie(0, 1);
        due("UP again", x.about(5), 1);
    }

    private static void ends() {
        Sentences.says("ENDS 0 .. WIDE - 1");
        for (int wide : SIZES) {
            for (int end : new int[] {0, wide - 1}) {
                DraftHouse x = new DraftHouse(wide, 2);
                due("thread", x.thread(end, 3), 1);
                due("colour", x.colour(true, end, 4), 2);
                due("shaft", x.shaft(end), 3);
                due("lead", x.lead(end, 1, 2), 1);
                due("seenColour", x.seenColour(end, 0), 0);
                due("wrong", x.wrong(end), 0);
                due("nearest", x.nearest(end, 0), 3);
                due("mendedShaft", x.mendedShaft(end), 3);
                due("layers", x.layers(end, end, 0, 0), 2);
                due("layer", x.layer(end, end, 0, 0, end), 1);
                x.tie(0, 8);
                x.tread(1, 1);
                due("row", x.row(1), 1L << end);
                due("seenColour", x.seenColour(end, 1), 4);
            }
            for (int end : new int[] {LOW, -64, -48, -2, -1, wide, wide + 1, wide + 48, wide + 64, FAR}) {
                DraftHouse x = new DraftHouse(wide, 2);
                String of = " of END " + end + " of " + wide;
                due("thread" + of, x.thread(end, 3), -1);
                due("colour" + of, x.colour(true, end, 4), -1);
                due("TIME" + of, x.about(2), 0);
                x.thread(0, 0);
                x.thread(wide - 1, 15);
                due("shaft" + of, x.shaft(end), -1);
                for (int what = 0; what < 4; what++) {
                    due("lead" + of, x.lead(end, 0, what), -1);
                }
                due("seenColour" + of, x.seenColour(end, 0), -1);
                due("wrong" + of, x.wrong(end), -1);
                due("nearest" + of, x.nearest(end, 0), -2);
                due("nearest" + of, x.nearest(end, 1), -2);
                due("mendedShaft" + of, x.mendedShaft(end), -2);
                due("layers" + of, x.layers(end, wide - 1, 0, 1), -1);
                due("layers" + of, x.layers(0, end, 0, 1), -1);
                due("layer" + of, x.layer(end, wide - 1, 0, 1, 0), -1);
                due("layer" + of, x.layer(0, end, 0, 1, 0), -1);
            }
        }
        for (int end : new int[] {LOW, -1, 4, FAR}) {
            refused("thread(" + end + ", 0)", x -> x.thread(end, 0));
            refused("thread(" + end + ", NONE)", x -> x.thread(end, -1));
            refused("colour(true, " + end + ", 1)", x -> x.colour(true, end, 1));
            refused("shaft(" + end + ")", x -> x.shaft(end));
            refused("lead(" + end + ", 0, 2)", x -> x.lead(end, 0, 2));
            refused("seenColour(" + end + ", 0)", x -> x.seenColour(end, 0));
            refused("wrong(" + end + ")", x -> x.wrong(end));
            refused("nearest(" + end + ", 0)", x -> x.nearest(end, 0), -2);
            refused("mendedShaft(" + end + ")", x -> x.mendedShaft(end), -2);
        }
    }

    private static void picks() {
        Sentences.says("PICKS 0 .. LONG - 1");
        for (int high : SIZES) {
            for (int pick : new int[] {0, high - 1}) {
                DraftHouse x = new DraftHouse(2, high);
                due("tread", x.tread(pick, 3), 1);
                due("colour", x.colour(false, pick, 4), 2);
                due("lift", x.lift(pick), 0);
                due("row", x.row(pick), 0);
                due("lead", x.lead(1, pick, 3), 1);
                due("seenColour", x.seenColour(1, pick), 4);
                due("seen", x.seen(pick, 2), true);
                due("wrong", x.wrong(1), 1);
                due("layers", x.layers(0, 0, pick, pick), 2);
                due("layer", x.layer(0, 0, pick, pick, 2 + pick), 0);
            }
            for (int pick : new int[] {LOW, -64, -48, -2, -1, high, high + 1, high + 48, high + 64, FAR}) {
                DraftHouse x = new DraftHouse(2, high);
                String of = " of PICK " + pick + " of " + high;
                due("tread" + of, x.tread(pick, 3), -1);
                due("colour" + of, x.colour(false, pick, 4), -1);
                due("TIME" + of, x.about(2), 0);
                x.tread(0, 1);
                x.tread(high - 1, 65535);
                due("lift" + of, x.lift(pick), -1);
                due("row" + of, x.row(pick), -1L);
                for (int what = 0; what < 4; what++) {
                    due("lead" + of, x.lead(0, pick, what), -1);
                }
                due("seenColour" + of, x.seenColour(0, pick), -1);
                due("seen" + of, x.seen(pick, 3), false);
                due("wrong behind it", x.wrong(0), 0);
                due("layers" + of, x.layers(0, 1, pick, high - 1), -1);
                due("layers" + of, x.layers(0, 1, 0, pick), -1);
                due("layer" + of, x.layer(0, 1, pick, high - 1, 0), -1);
                due("layer" + of, x.layer(0, 1, 0, pick, 0), -1);
            }
        }
        for (int pick : new int[] {LOW, -1, 3, FAR}) {
            refused("tread(" + pick + ", 1)", x -> x.tread(pick, 1));
            refused("tread(" + pick + ", 0)", x -> x.tread(pick, 0));
            refused("colour(false, " + pick + ", 1)", x -> x.colour(false, pick, 1));
            refused("lift(" + pick + ")", x -> x.lift(pick));
            refused("row(" + pick + ")", x -> x.row(pick));
            refused("lead(0, " + pick + ", 3)", x -> x.lead(0, pick, 3));
            refused("seenColour(0, " + pick + ")", x -> x.seenColour(0, pick));
            refused("seen(" + pick + ", 15)", x -> x.seen(pick, 15) ? 1 : 0, 0);
        }
    }

    private static void shafts() {
        Sentences.says("SHAFTS 0 .. 15; an END's SHAFT (NONE: none)");
        for (int shaft = -1; shaft < 16; shaft++) {
            DraftHouse x = new DraftHouse(1, 1);
            due("thread(0, " + shaft + ")", x.thread(0, shaft), 1);
            due("shaft(0)", x.shaft(0), shaft);
            due("lead 0", x.lead(0, 0, 0), shaft);
            due("lead 2", x.lead(0, 0, 2), 1);
            due("ENDS with a SHAFT", x.about(7), shaft < 0 ? 0 : 1);
            due("ENTRIES", x.about(4), 1);
            x.tread(0, 1);
            x.tie(0, shaft < 0 ? 65535 : 1 << shaft);
            due("row(0)", x.row(0), shaft < 0 ? 0 : 1);
            x.tie(0, shaft < 0 ? 0 : 65535 ^ 1 << shaft);
            due("row(0)", x.row(0), 0);
        }
        for (int shaft : new int[] {LOW, -17, -16, -3, -2, 16, 17, 31, 32, 64, 65535, FAR}) {
            refused("thread(1, " + shaft + ")", x -> x.thread(1, shaft));
        }
    }

    private static void treadles() {
        Sentences.says("TREADLES 0 .. 15");
        for (int treadle = 0; treadle < 16; treadle++) {
            DraftHouse x = new DraftHouse(1, 1);
            x.thread(0, 7);
            due("tie(" + treadle + ", 128)", x.tie(treadle, 128), 2);
            x.tread(0, 65535 ^ 1 << treadle);
            due("the others' LIFT", x.lift(0), 0);
            due("lead 1", x.lead(0, 0, 1), -1);
            x.tread(0, 1 << treadle);
            due("its LIFT", x.lift(0), 128);
            due("lead 1", x.lead(0, 0, 1), treadle);
        }
        for (int treadle : new int[] {LOW, -16, -2, -1, 16, 17, 32, 48, 64, FAR}) {
            refused("tie(" + treadle + ", 1)", x -> x.tie(treadle, 1));
            refused("tie(" + treadle + ", 0)", x -> x.tie(treadle, 0));
        }
    }

    private static void setsOfTies() {
        Sentences.says("A TREADLE's TIE (0 .. 65535)");
        int[] sets = {0, 1, 2, 32767, 32768, 65534, 65535};
        for (int set : sets) {
            DraftHouse x = new DraftHouse(1, 1);
            x.tread(0, 8);
            due("tie(3, " + set + ")", x.tie(3, set), 2);
            due("lift(0)", x.lift(0), set);
        }
        for (int set : new int[] {LOW, -65536, -2, -1, 65536, 65537, 131071, FAR}) {
            refused("tie(0, " + set + ")", x -> x.tie(0, set));
        }
    }

    private static void setsOfTreads() {
        Sentences.says("A PICK's TREAD (0 .. 65535)");
        for (int set : new int[] {0, 1, 2, 32767, 32768, 65534, 65535}) {
            DraftHouse x = new DraftHouse(1, 2);
            for (int treadle = 0; treadle < 16; treadle++) {
                x.tie(treadle, 1 << treadle);
            }
            due("tread(1, " + set + ")", x.tread(1, set), 17);
            due("lift(1)", x.lift(1), set);
            due("lift(0)", x.lift(0), 0);
        }
        for (int set : new int[] {LOW, -65536, -2, -1, 65536, 65537, 131071, FAR}) {
            refused("tread(0, " + set + ")", x -> x.tread(0, set));
        }
    }

    private static void colours() {
        Sentences.says("a COLOUR (0 .. 9) of an END or of a PICK");
        for (int colour = 0; colour < 10; colour++) {
            DraftHouse x = new DraftHouse(2, 2);
            x.thread(1, 0);
            x.tie(0, 1);
            x.tread(1, 1);
            due("colour(true, 1, " + colour + ")", x.colour(true, 1, colour), 4);
            due("seenColour(1, 1)", x.seenColour(1, 1), colour);
            due("coloured(" + colour + ")", x.coloured(colour), colour == 0 ? 4 : 1);
            due("colour(false, 0, " + colour + ")", x.colour(false, 0, colour), 5);
            due("seenColour(1, 0)", x.seenColour(1, 0), colour);
            due("coloured(" + colour + ")", x.coloured(colour), colour == 0 ? 4 : 3);
            due("ENTRIES", x.about(4), 5);
        }
        for (int colour : new int[] {LOW, -10, -2, -1, 10, 11, 16, FAR}) {
            refused("colour(true, 0, " + colour + ")", x -> x.colour(true, 0, colour));
            refused("colour(false, 0, " + colour + ")", x -> x.colour(false, 0, colour));
            refused("coloured(" + colour + ")", x -> x.coloured(colour));
        }
        // an END's bounds are those of ENDS, a PICK's those of PICKS
        DraftHouse x = new DraftHouse(3, 2);
        due("colour(true, 2, 1)", x.colour(true, 2, 1), 1);
        due("colour(false, 2, 1)", x.colour(false, 2, 1), -1);
        DraftHouse y = new DraftHouse(2, 3);
        due("colour(false, 2, 1)", y.colour(false, 2, 1), 1);
        due("colour(true, 2, 1)", y.colour(true, 2, 1), -1);
    }

    /** All kinds of tellings, of one ENTRY each on a cloth of one PICK. */
    private static final Sentences.Call[] TELLINGS = {
        x -> x.thread(1, 2), x -> x.thread(1, -1), x -> x.tie(15, 4), x -> x.tread(0, 32768),
        x -> x.colour(true, 0, 9), x -> x.colour(false, 0, 8),
        x -> Tapes.tell(x, "tie 15 3;"), x -> Tapes.tell(x, "tread 4;")};

    /** A cloth of one PICK, at some TIME by tellings by hand. */
    private static DraftHouse atTime(int time) {
        DraftHouse x = new DraftHouse(2, 1);
        for (int i = 1; i <= time; i++) {
            due("telling " + i, i % 3 == 0 ? x.tie(i % 4, i) : i % 3 == 1 ? x.thread(i % 2, i % 16) : x.tread(0, i % 16), i);
        }
        return x;
    }

    private static void times() {
        Sentences.says("each telling that is done makes it one more (400 at most)");
        for (int kind = 0; kind < TELLINGS.length; kind++) {
            Sentences.Call telling = TELLINGS[kind];
            DraftHouse x = atTime(398);
            due("telling 399, kind " + kind, telling.on(x), 399);
            due("telling 400, kind " + kind, telling.on(x), 400);
            due("telling 401, kind " + kind, telling.on(x), -1);
            due("TIME", x.about(2), 400);
            due("THE LOOK", x.about(3), 400);
            due("ENTRIES", x.about(4), 400);
            Sentences.refusedTelling("kind " + kind + " at TIME 400", () -> atTime(400), telling, kind > 5);
        }
        Sentences.says("TIME or ENTRIES would be full: nothing is told");
        DraftHouse none = atTime(399);
        due("a text of none at 399", Tapes.tell(none, "block A=1;"), 400);
        due("a text of none at 400", Tapes.tell(none, ""), -1);
        Sentences.refusedText("", () -> atTime(400), 0, -1);
        Sentences.refusedText("thread 1;tie 0 9;tread 2;", () -> atTime(400), 0, -1);
        Sentences.refusedText("thread 1;tie 0 16", () -> atTime(400), 2, 15);
        Sentences.says("THE LOOK is at a TIME (0 to the latest)");
        DraftHouse full = atTime(400);
        due("look(400)", full.look(400), true);
        due("look(401)", full.look(401), false);
        due("look(399)", full.look(399), true);
        due("a refused telling", full.thread(0, 1), -1);
        due("leaves THE LOOK", full.about(3), 399);
    }

    /** A cloth of 48 ENDS and one PICK with so many ENTRIES, 960 at least. */
    private static DraftHouse withEntries(int entries) {
        DraftHouse x = new DraftHouse(48, 1);
        StringBuilder threads = new StringBuilder();
        for (int i = 0; i < 20; i++) {
            threads.append("thread 1;");
        }
        due("960 ENTRIES", Tapes.tell(x, threads.toString()), 1);
        int time = 1;
        while (x.about(4) + 960 <= entries) {
            time++;
            due("960 ENTRIES more", Tapes.tell(x, threads.toString()), time);
        }
        while (x.about(4) + 37 <= entries) {
            time++;
            due("37 ENTRIES more", Tapes.tell(x, "tie 1 2;".repeat(37)), time);
        }
        while (x.about(4) < entries) {
            time++;
            due("one ENTRY more", x.tie(2, 7), time);
        }
        due("ENTRIES", x.about(4), entries);
        return x;
    }

    private static void entriesByHand() {
        Sentences.says("ENTRIES (2000 at most)");
        for (int kind = 0; kind < TELLINGS.length; kind++) {
            Sentences.Call telling = TELLINGS[kind];
            DraftHouse x = withEntries(1998);
            int time = x.about(2);
            due("ENTRY 1999, kind " + kind, telling.on(x), time + 1);
            due("ENTRIES", x.about(4), 1999);
            due("ENTRY 2000, kind " + kind, telling.on(x), time + 2);
            due("ENTRIES", x.about(4), 2000);
            due("ENTRY 2001, kind " + kind, telling.on(x), -1);
            due("ENTRIES", x.about(4), 2000);
            due("TIME", x.about(2), time + 2);
            Sentences.refusedTelling("kind " + kind + " at 2000 ENTRIES", () -> withEntries(2000), telling, kind > 5);
        }
        // one that is told as it is already is an ENTRY too
        DraftHouse x = new DraftHouse(1, 1);
        x.thread(0, -1);
        x.thread(0, -1);
        x.tie(0, 0);
        x.tread(0, 0);
        x.colour(true, 0, 0);
        due("ENTRIES without a change", x.about(4), 5);
        x.look(0);
        due("ENTRIES by an earlier LOOK", x.about(4), 5);
    }

    private static void entriesByTexts() {
        Sentences.says("TIME or ENTRIES would be full: nothing is told");
        for (int more = 47; more < 50; more++) {
            DraftHouse x = withEntries(2000 - more);
            int time = x.about(2);
            due("48 ENTRIES where " + more + " have room", Tapes.tell(x, "thread 5;"), more < 48 ? -1 : time + 1);
            due("ENTRIES", x.about(4), more < 48 ? 2000 - more : 2048 - more);
            due("shaft(47)", x.shaft(47), more < 48 ? 1 : 5);
            due("fault(0)", x.fault(0), 0);
            due("fault(1)", x.fault(1), -1);
            due("the tape", x.about(6), 0);
        }
        Sentences.refusedText("thread 5;", () -> withEntries(1953), 0, -1);
        Sentences.refusedText("tie 1 3; tie 2 4;", () -> withEntries(1999), 0, -1);
        Sentences.refusedText("tread 1; tread 2; block A = 1; tie 2 4;", () -> withEntries(1998), 0, -1);
        Sentences.refusedText("tie 1 3; tie 2 4; tie 16 1;", () -> withEntries(1999), 2, 22);
        DraftHouse three = withEntries(1997);
        due("three where three have room", Tapes.tell(three, "tread 1; tread 2; block A = 1; tie 2 4;") > 0, true);
        due("ENTRIES", three.about(4), 2000);
        due("the later counts", three.lift(0), 16);

        // 41 * 48 ENTRIES have room, 42 * 48 don't
        DraftHouse x = new DraftHouse(1, 48);
        due("1968 ENTRIES at once", Tapes.tell(x, "tread1;".repeat(41)), 1);
        due("ENTRIES", x.about(4), 1968);
        Sentences.refusedText("tread1;".repeat(42), () -> new DraftHouse(1, 48), 0, -1);
        Sentences.refusedText("tread1;".repeat(42) + "tread", () -> new DraftHouse(1, 48), 1, 299);
        DraftHouse y = new DraftHouse(1, 48);
        due("2016 ENTRIES at once", Tapes.tell(y, "tread1;".repeat(42)), -1);
        due("a text behind it", Tapes.tell(y, "tread 2; tie 2 1;"), 1);
        due("ENTRIES", y.about(4), 49);
        due("lift(47)", y.lift(47), 2);
        y.tread(47, 0);
        due("lift(46)", y.lift(46), 2);
        due("lift(47)", y.lift(47), 0);
    }

    private static void latestAtOrAhead() {
        Sentences.says("all is as it was told latest at or ahead of it");
        DraftHouse x = new DraftHouse(2, 2);
        x.colour(false, 0, 1);
        x.thread(1, 3);
        x.tie(0, 8);
        x.tread(0, 1);
        x.colour(true, 1, 6);
        x.thread(1, 4);
        x.tie(0, 16);
        x.tread(0, 2);
        x.colour(true, 1, 7);
        x.colour(false, 0, 2);
        int[] shafts = {-1, -1, 3, 3, 3, 3, 4, 4, 4, 4, 4};
        int[] lifts = {0, 0, 0, 0, 8, 8, 8, 16, 0, 0, 0};
        int[] told = {-1, -1, 2, 2, 2, 2, 6, 6, 6, 6, 6};
        int[] trod = {-1, -1, -1, -1, 4, 4, 4, 4, 8, 8, 8};
        int[] colours = {0, 1, 1, 1, 0, 6, 1, 6, 1, 1, 2};
        for (int round = 0; round < 2; round++) {
            for (int i = 0; i <= 10; i++) {
                int time = round == 0 ? i : 10 - i;
                due("look(" + time + ")", x.look(time), true);
                due("THE LOOK", x.about(3), time);
                due("shaft at " + time, x.shaft(1), shafts[time]);
                due("lift at " + time, x.lift(0), lifts[time]);
                due("lead 2 at " + time, x.lead(1, 0, 2), told[time]);
                due("lead 3 at " + time, x.lead(1, 0, 3), trod[time]);
                due("colour at " + time, x.seenColour(1, 0), colours[time]);
                due("lead 2 of an END never told", x.lead(0, 0, 2), -1);
                due("lead 3 of a PICK never told", x.lead(1, 1, 3), -1);
            }
        }
    }

    private static void looks() {
        Sentences.says("THE LOOK is at a TIME (0 to the latest): true. False for others");
        for (int latest : new int[] {0, 1, 2, 9}) {
            DraftHouse x = atTime(latest);
            due("look(0)", x.look(0), true);
            due("look of the latest", x.look(latest), true);
            due("look beyond it", x.look(latest + 1), false);
            due("look(-1)", x.look(-1), false);
            due("look(lowest)", x.look(LOW), false);
            due("look(highest)", x.look(FAR), false);
            due("THE LOOK", x.about(3), latest);
            due("TIME", x.about(2), latest);
        }
        for (int time : new int[] {LOW, -400, -1, 8, 9, 400, FAR}) {
            refused("look(" + time + ")", x -> x.look(time) ? 1 : 0, 0);
        }
        DraftHouse x = rich();
        due("look(7), the latest", x.look(7), true);
        due("TIME stays", x.about(2), 7);
    }

    private static void lookBehindTellings() {
        Sentences.says("at first, and behind each telling, it is the latest one");
        for (int kind = 0; kind < TELLINGS.length; kind++) {
            for (int look = 0; look < 4; look++) {
                DraftHouse x = new DraftHouse(2, 1);
                due("THE LOOK at first", x.about(3), 0);
                x.thread(0, 5);
                x.tie(4, 32);
                x.tread(0, 16);
                due("THE LOOK", x.about(3), 3);
                x.look(look);
                due("kind " + kind + " behind look(" + look + ")", TELLINGS[kind].on(x), 4);
                due("THE LOOK", x.about(3), 4);
                due("TIME", x.about(2), 4);
                due("what was told ahead counts", x.shaft(0), 5);
                x.tread(0, 16);
                due("what was told ahead counts", x.lift(0), 32);
                due("UP", x.row(0), 1);
            }
        }
    }

    /** A tape of so many bytes, that would be taken as a text: blanks behind a tie. */
    private static DraftHouse withBytes(int bytes) {
        DraftHouse x = new DraftHouse(1, 1);
        x.tread(0, 1);
        Tapes.put(x, "tie 0 3;" + " ".repeat(bytes - 8));
        due("bytes of the tape", x.about(6), bytes);
        return x;
    }

    private static void feeds() {
        Sentences.says("NONE, and none come, if there would be more than 300");
        DraftHouse x = new DraftHouse(1, 1);
        for (int i = 1; i <= 15; i++) {
            due("feed " + i, x.feed(i, 0, 0, 0, 0), 20 * i);
            due("bytes of the tape", x.about(6), 20 * i);
        }
        due("feed 16", x.feed(0, 0, 0, 0, 0), -1);
        due("feed 17", x.feed(0, 0, 0, 0, 0), -1);
        for (int bytes = 278; bytes <= 300; bytes++) {
            DraftHouse y = withBytes(bytes);
            due("feed behind " + bytes, Tapes.feed(y, " ".repeat(20), 0), bytes > 280 ? -1 : bytes + 20);
            due("bytes of the tape", y.about(6), bytes > 280 ? bytes : bytes + 20);
            due("its text", y.text(), 2);
            due("its TIE", y.lift(0), 8);
        }
        for (int bytes : new int[] {281, 282, 299, 300}) {
            int had = bytes;
            Sentences.refused("feed behind " + bytes, () -> withBytes(had), y -> Tapes.feed(y, "tie 0 9;", 0), -1);
        }

        Sentences.says("Twenty bytes come behind the tape, the highest of a first");
        String bytes = "tie 0 2,4*3,7 to  9;";
        DraftHouse y = new DraftHouse(1, 1);
        y.tread(0, 1);
        due("feed", Tapes.feed(y, bytes, 0), 20);
        due("text()", y.text(), 2);
        due("lift(0)", y.lift(0), 4 + 16 + 128 + 256 + 512);
        // a byte of each place of each word is at its place: what can't stand there is told by its place
        for (int at = 0; at < 20; at++) {
            for (int sign : new int[] {0, 127, 128, 255}) {
                int[] w = {0x20202020, 0x20202020, 0x20202020, 0x20202020, 0x20202020};
                w[at / 4] = w[at / 4] & ~(255 << 24 - at % 4 * 8) | sign << 24 - at % 4 * 8;
                DraftHouse z = new DraftHouse(1, 1);
                due("feed", z.feed(w[0], w[1], w[2], w[3], w[4]), 20);
                due("text() with byte " + sign, z.text(), -1);
                due("its place", z.fault(1), at);
            }
        }
    }

    private static void ending() {
        Sentences.says("NONE, and nothing is done, if it has not so many, or n is below 0");
        for (int bytes : new int[] {8, 19, 20, 21, 299, 300}) {
            DraftHouse x = withBytes(bytes);
            due("end(" + (bytes + 1) + ")", x.end(bytes + 1), -1);
            due("end(-1)", x.end(-1), -1);
            due("end(" + bytes + ")", x.end(bytes), bytes);
            due("end(" + (bytes - 1) + ")", x.end(bytes - 1), bytes - 1);
            due("end(" + bytes + ")", x.end(bytes), -1);
            due("bytes", x.about(6), bytes - 1);
            due("end(0)", x.end(0), 0);
            due("end(1)", x.end(1), -1);
            due("an empty text", x.text(), 2);
            due("its TIE", x.lift(0), 0);
            for (int n : new int[] {LOW, -300, -1, bytes + 1, 301, FAR}) {
                Sentences.refused("end(" + n + ") of " + bytes, () -> withBytes(bytes), y -> y.end(n), -1);
            }
        }
        DraftHouse none = new DraftHouse(1, 1);
        due("end(0) of none", none.end(0), 0);
        due("end(1) of none", none.end(1), -1);
        due("end(-1) of none", none.end(-1), -1);
        Sentences.says("The tape has its first n bytes alone");
        DraftHouse x = withBytes(100);
        x.end(6);
        due("feed behind 6", Tapes.feed(x, "1,2;", 0), 26);
        x.end(10);
        due("text()", x.text(), 2);
        due("its TIE", x.lift(0), 6);
        due("the tape is empty then", x.end(1), -1);
        due("feed behind a text", Tapes.feed(x, "tie 0 9;", 0), 20);
        x.end(7);
        due("text()", x.text(), -1);
        due("its place", x.fault(1), 7);
        due("its TIE", x.lift(0), 6);
    }

    private static void whats() {
        Sentences.says("NONE for others");
        for (int what : new int[] {LOW, -2, -1, 8, 9, FAR}) {
            refused("about(" + what + ")", x -> x.about(what));
        }
        for (int what : new int[] {LOW, -2, -1, 4, 5, FAR}) {
            refused("lead(1, 1, " + what + ")", x -> x.lead(1, 1, what));
        }
        for (int what : new int[] {LOW, -2, -1, 2, 3, FAR}) {
            refused("fault(" + what + ")", x -> x.fault(what));
            refused("nearest(1, " + what + ")", x -> x.nearest(1, what), -2);
        }
        for (int what : new int[] {LOW, -2, -1, 3, 4, FAR}) {
            refused("mended(" + what + ")", x -> x.mended(what), -2);
        }
        Sentences.says("0 WIDE, 1 LONG, 2 TIME, 3 THE LOOK, 4 ENTRIES, 5 CELLS that are UP, 6 bytes of the tape, 7 ENDS with a SHAFT");
        int[] want = {4, 3, 7, 5, 10 + 6, 8, 18, 4};
        for (int what = 0; what < 8; what++) {
            due("about(" + what + ")", rich().about(what), want[what]);
        }
        DraftHouse most = new DraftHouse(48, 48);
        Tapes.tell(most, "thread 0; tie 0 0; tread 0;");
        due("all CELLS UP", most.about(5), 2304);
        due("all ENDS with a SHAFT", most.about(7), 48);
        most.thread(47, -1);
        due("all CELLS but those of one END", most.about(5), 2256);
        due("all ENDS but one", most.about(7), 47);
    }
}
