/** For each promise: ordinary inputs, the edges that the document names, and wrong inputs. */
public final class PromiseTests {
    private static int wrong = 0;
    private static int promise = 0;

    public static void main(String[] args) {
        newObject();
        thread();
        tie();
        tread();
        colour();
        limits();
        feed();
        end();
        text();
        textRows();
        textFaults();
        textBrackets();
        textTooMany();
        textLimits();
        fault();
        look();
        shaft();
        lift();
        row();
        lead();
        longest();
        floats();
        layers();
        layer();
        seenColour();
        coloured();
        period();
        fewest();
        pegs();
        cover();
        seen();
        wrongCells();
        nearest();
        mended();
        mendedShaft();
        shifted();
        about();
        System.out.println(wrong == 0 ? "all promises hold" : wrong + " answers are not as promised");
        if (wrong != 0) {
            System.exit(1);
        }
    }

    private static void due(String what, long got, long want) {
        if (got != want) {
            wrong++;
            System.out.println("promise " + promise + ": " + what + " answered " + got + ", due is " + want);
        }
    }

    private static void due(String what, boolean got, boolean want) {
        due(what, got ? 1 : 0, want ? 1 : 0);
    }

    private static void put(DraftHouse x, String text) {
        due("the tape has all of " + text, Tapes.put(x, text), true);
    }

    private static int tell(DraftHouse x, String text) {
        put(x, text);
        return x.text();
    }

    private static DraftHouse told(int wide, int high, String text) {
        DraftHouse x = new DraftHouse(wide, high);
        due(text, tell(x, text), 1);
        return x;
    }

    private static void dueFault(String text, int fault, int place) {
        DraftHouse x = new DraftHouse(48, 48);
        due("text() of " + text, tell(x, text), fault == 0 ? 1 : -1);
        due("fault(0) of " + text, x.fault(0), fault);
        due("fault(1) of " + text, x.fault(1), place);
        due("TIME behind " + text, x.about(2), fault == 0 ? 1 : 0);
    }

    private static void dueShafts(String row, int... shafts) {
        DraftHouse x = told(48, 1, "thread " + row + ";");
        for (int end = 0; end < 48; end++) {
            due("shaft(" + end + ") of " + row, x.shaft(end), shafts[end % shafts.length]);
        }
    }

    private static String times(String text, int n) {
        return text.repeat(n);
    }

    /** A cloth with the rows that are given, by an END's own SHAFT each (16 ENDS and PICKS at most). */
    private static DraftHouse cloth(String... rows) {
        DraftHouse x = new DraftHouse(rows[0].length(), rows.length);
        for (int e = 0; e < rows[0].length(); e++) {
            x.thread(e, e);
        }
        for (int p = 0; p < rows.length; p++) {
            int set = 0;
            for (int e = 0; e < rows[p].length(); e++) {
                set |= rows[p].charAt(e) == 'x' ? 1 << e : 0;
            }
            x.tie(p, set);
            x.tread(p, 1 << p);
        }
        return x;
    }

    private static void newObject() {
        promise = 1;
        int[][] sizes = {{1, 1, 1, 1}, {48, 48, 48, 48}, {0, 49, 1, 48}, {49, 0, 48, 1}, {-7, 7, 1, 7},
            {Integer.MIN_VALUE, Integer.MAX_VALUE, 1, 48}, {Integer.MAX_VALUE, Integer.MIN_VALUE, 48, 1}};
        for (int[] s : sizes) {
            DraftHouse x = new DraftHouse(s[0], s[1]);
            due("about(0) of " + s[0], x.about(0), s[2]);
            due("about(1) of " + s[1], x.about(1), s[3]);
        }
        DraftHouse x = new DraftHouse(3, 2);
        due("TIME at first", x.about(2), 0);
        due("THE LOOK at first", x.about(3), 0);
        due("ENTRIES at first", x.about(4), 0);
        due("UP at first", x.about(5), 0);
        due("tape at first", x.about(6), 0);
        due("threaded at first", x.about(7), 0);
        due("shaft at first", x.shaft(0), -1);
        due("lift at first", x.lift(0), 0);
        due("colour at first", x.coloured(0), 6);
        due("fault ahead of any", x.fault(0), -1);
        due("fault ahead of any", x.fault(1), -1);
        due("SEEN at first", x.mended(0), 0);
        due("NONE", DraftHouse.NONE, -1);
    }

    private static void thread() {
        promise = 2;
        DraftHouse x = new DraftHouse(3, 2);
        due("thread(0, 0)", x.thread(0, 0), 1);
        due("thread(2, 15)", x.thread(2, 15), 2);
        due("thread(2, NONE)", x.thread(2, -1), 3);
        due("shaft(2)", x.shaft(2), -1);
        due("thread(0, 0) again", x.thread(0, 0), 4);
        due("thread(3, 0)", x.thread(3, 0), -1);
        due("thread(-1, 0)", x.thread(-1, 0), -1);
        due("thread(0, 16)", x.thread(0, 16), -1);
        due("thread(0, -2)", x.thread(0, -2), -1);
        due("thread(far)", x.thread(Integer.MIN_VALUE, Integer.MAX_VALUE), -1);
        due("TIME", x.about(2), 4);
        due("ENTRIES", x.about(4), 4);
        due("shaft(0)", x.shaft(0), 0);
    }

    private static void tie() {
        promise = 3;
        DraftHouse x = new DraftHouse(1, 1);
        due("tie(0, 0)", x.tie(0, 0), 1);
        due("tie(15, 65535)", x.tie(15, 65535), 2);
        due("tie(16, 0)", x.tie(16, 0), -1);
        due("tie(-1, 0)", x.tie(-1, 0), -1);
        due("tie(0, 65536)", x.tie(0, 65536), -1);
        due("tie(0, -1)", x.tie(0, -1), -1);
        due("TIME", x.about(2), 2);
        x.tread(0, 32768);
        due("lift(0)", x.lift(0), 65535);
        x.tie(15, 9);
        due("lift(0)", x.lift(0), 9);
    }

    private static void tread() {
        promise = 4;
        DraftHouse x = new DraftHouse(1, 2);
        due("tread(0, 0)", x.tread(0, 0), 1);
        due("tread(1, 65535)", x.tread(1, 65535), 2);
        due("tread(2, 0)", x.tread(2, 0), -1);
        due("tread(-1, 0)", x.tread(-1, 0), -1);
        due("tread(0, 65536)", x.tread(0, 65536), -1);
        due("tread(0, -1)", x.tread(0, -1), -1);
        x.tie(3, 4);
        x.tie(9, 16);
        due("lift of all TREADLES", x.lift(1), 20);
        due("lift of none", x.lift(0), 0);
        due("TIME", x.about(2), 4);
    }

    private static void colour() {
        promise = 5;
        DraftHouse x = new DraftHouse(3, 2);
        due("colour(true, 2, 9)", x.colour(true, 2, 9), 1);
        due("colour(false, 1, 0)", x.colour(false, 1, 0), 2);
        due("colour(false, 2, 0)", x.colour(false, 2, 0), -1);
        due("colour(true, 3, 0)", x.colour(true, 3, 0), -1);
        due("colour(true, -1, 0)", x.colour(true, -1, 0), -1);
        due("colour(false, -1, 0)", x.colour(false, -1, 0), -1);
        due("colour(true, 0, 10)", x.colour(true, 0, 10), -1);
        due("colour(true, 0, -1)", x.colour(true, 0, -1), -1);
        due("TIME", x.about(2), 2);
        due("ENTRIES", x.about(4), 2);
    }

    private static void limits() {
        promise = 2;
        DraftHouse x = new DraftHouse(2, 2);
        for (int i = 1; i <= 400; i++) {
            due("telling " + i, i % 2 == 0 ? x.tie(i % 16, i) : x.colour(true, 0, i % 10), i);
        }
        due("thread at TIME 400", x.thread(0, 0), -1);
        due("tie at TIME 400", x.tie(0, 0), -1);
        due("tread at TIME 400", x.tread(0, 0), -1);
        due("colour at TIME 400", x.colour(true, 0, 0), -1);
        due("text() at TIME 400", tell(x, ""), -1);
        due("fault(0) at TIME 400", x.fault(0), 0);
        due("fault(1) at TIME 400", x.fault(1), -1);
        due("faulty text() at TIME 400", tell(x, "tie"), -1);
        due("its fault(0)", x.fault(0), 1);
        due("its fault(1)", x.fault(1), 3);
        due("TIME", x.about(2), 400);
        due("ENTRIES", x.about(4), 400);
        due("look(400)", x.look(400), true);
        due("look(401)", x.look(401), false);

        DraftHouse y = new DraftHouse(48, 48);
        due("1920 ENTRIES", tell(y, times("tread0;", 40)), 1);
        due("ENTRIES", y.about(4), 1920);
        due("1968 ENTRIES", tell(y, "thread 3;"), 2);
        for (int i = 0; i < 31; i++) {
            due("one more", y.tie(1, i), 3 + i);
        }
        due("ENTRIES", y.about(4), 1999);
        due("a text of two", tell(y, "tie 0 1; tie 1 2;"), -1);
        due("its fault", y.fault(0), 0);
        due("nothing is told", y.lift(0), 0);
        due("a text of one", tell(y, "tie 0 1;"), 34);
        due("ENTRIES", y.about(4), 2000);
        due("thread at 2000", y.thread(0, 0), -1);
        due("tie at 2000", y.tie(0, 0), -1);
        due("tread at 2000", y.tread(0, 0), -1);
        due("colour at 2000", y.colour(true, 0, 0), -1);
        due("a text of none at 2000", tell(y, "block A=1;"), 35);
        due("a text of one at 2000", tell(y, "tie 0 1;"), -1);
        due("TIME", y.about(2), 35);
    }

    private static void feed() {
        promise = 6;
        DraftHouse x = new DraftHouse(1, 1);
        for (int i = 1; i <= 15; i++) {
            due("feed " + i, x.feed(0, 0, 0, 0, 0), 20 * i);
        }
        due("feed 16", x.feed(0, 0, 0, 0, 0), -1);
        due("tape", x.about(6), 300);
        due("end(281)", x.end(281), 281);
        due("feed behind 281", x.feed(0, 0, 0, 0, 0), -1);
        due("tape", x.about(6), 281);
        due("end(280)", x.end(280), 280);
        due("feed behind 280", x.feed(0, 0, 0, 0, 0), 300);

        // the highest byte of a first: "tie0", "15;t", "ie 1", " 2 ;", four blanks
        DraftHouse y = new DraftHouse(1, 2);
        due("feed", y.feed(0x74696530, 0x31353b74, 0x69652031, 0x2032203b, 0x20200a20), 20);
        due("tie015 has no ROW", y.text(), -1);
        due("fault", y.fault(0), 1);
        due("place", y.fault(1), 6);
        due("feed", y.feed(0x74696520, 0x30203135, 0x3b746965, 0x20312032, 0x3b20200a), 20);
        due("text()", y.text(), 1);
        y.tread(0, 1);
        y.tread(1, 2);
        due("lift(0)", y.lift(0), 32768);
        due("lift(1)", y.lift(1), 4);
        due("bytes above 127", y.feed(-1, -1, -1, -1, -1), 20);
        due("text()", y.text(), -1);
        due("place", y.fault(1), 0);
    }

    private static void end() {
        promise = 7;
        DraftHouse x = new DraftHouse(1, 1);
        due("end(1) of none", x.end(1), -1);
        due("end(0) of none", x.end(0), 0);
        x.feed(0, 0, 0, 0, 0);
        due("end(21)", x.end(21), -1);
        due("end(-1)", x.end(-1), -1);
        due("end(far)", x.end(Integer.MIN_VALUE), -1);
        due("tape", x.about(6), 20);
        due("end(20)", x.end(20), 20);
        due("end(7)", x.end(7), 7);
        due("tape", x.about(6), 7);
        due("end(8)", x.end(8), -1);
        due("feed", x.feed(0, 0, 0, 0, 0), 27);
    }

    private static void text() {
        promise = 8;
        DraftHouse x = new DraftHouse(5, 3);
        due("empty", tell(x, ""), 1);
        due("blanks", tell(x, " \n \n"), 2);
        due("ENTRIES of them", x.about(4), 0);
        due("a block alone", tell(x, "block A = 1;"), 3);
        due("ENTRIES of it", x.about(4), 0);
        due("the tape is empty then", x.about(6), 0);
        due("blocks are of one text", tell(x, "thread A;"), -1);
        due("fault", x.fault(0), 4);
        due("the tape is empty then", x.about(6), 0);
        due("all at once", tell(x, "thread 0 to 1;tie 1 0,0,15;tie 2 (3);tread 1,2;thread 4*2,5;"), 4);
        due("ENTRIES", x.about(4), 5 + 1 + 1 + 3 + 5);
        int[] shafts = {4, 4, 5, 4, 4};
        for (int e = 0; e < 5; e++) {
            due("the later thread counts", x.shaft(e), shafts[e]);
        }
        due("lift(0)", x.lift(0), 32769);
        due("lift(1)", x.lift(1), 8);
        due("lift(2)", x.lift(2), 32769);
        due("a tie is told anew, not more", tell(x, "tie 1 2;"), 5);
        due("lift(0)", x.lift(0), 4);
        due("a faulty text", tell(x, "tie 1 3; tie 1"), -1);
        due("tells nothing", x.lift(0), 4);
        due("TIME", x.about(2), 5);
        due("ENTRIES", x.about(4), 16);
        x.look(4);
        due("a faulty text", tell(x, "x"), -1);
        due("leaves THE LOOK", x.about(3), 4);
        due("a good one", tell(x, ""), 6);
        due("moves THE LOOK", x.about(3), 6);
        due("a row longer than the cloth", tell(x, "tread 0 to 15;thread 15 to 0;"), 7);
        due("shaft(4)", x.shaft(4), 11);
        due("lift(2) of TREADLE 2", x.lift(2), 8);
        due("ENTRIES", x.about(4), 24);
        due("no blanks", tell(x, "thread1to3,2*2;tie0 1;"), 8);
        due("shaft(3)", x.shaft(3), 2);
    }

    private static void textRows() {
        promise = 8;
        dueShafts("7", 7);
        dueShafts("0 to 15", 0, 1, 2, 3, 4, 5, 6, 7, 8, 9, 10, 11, 12, 13, 14, 15);
        dueShafts("3 to 1", 3, 2, 1);
        dueShafts("4 to 4", 4);
        dueShafts("1 to 3*2, 9", 1, 2, 3, 1, 2, 3, 9);
        dueShafts("1*1", 1);
        dueShafts("(1,2)*3,4", 1, 2, 1, 2, 1, 2, 4);
        dueShafts("1,(2,3*2)*2", 1, 2, 3, 3, 2, 3, 3);
        dueShafts("mirror(5)", 5);
        dueShafts("mirror(5,6)", 5, 6);
        dueShafts("mirror(5,6,7)", 5, 6, 7, 6);
        dueShafts("mirror(0 to 3)*2,9", 0, 1, 2, 3, 2, 1, 0, 1, 2, 3, 2, 1, 9);
        dueShafts("1,mirror(2 to 4),5", 1, 2, 3, 4, 3, 5);
        dueShafts("back(5)", 5);
        dueShafts("1,back(2,3,4),5", 1, 4, 3, 2, 5);
        dueShafts("back(1,2,3,4)", 4, 3, 2, 1);
        dueShafts("1,plus 14(1 to 3),5", 1, 15, 0, 1, 5);
        dueShafts("plus 0(3,4)", 3, 4);
        dueShafts("plus 15(plus 15(0,1))", 14, 15);
        dueShafts("back(1,mirror(2,3,4),plus 3(5,(6)))", 9, 8, 3, 4, 3, 2, 1);
        dueShafts("((((((((3))))))))", 3);
        dueShafts("(1),((2)),(((3)))", 1, 2, 3);
        dueShafts("000000000000000000000000000000015, 01 * 002", 15, 1, 1);
        DraftHouse x = told(8, 1, "block H=1,2;block A=H*2,back(H);block B=A;thread mirror(B);");
        int[] due = {1, 2, 1, 2, 2, 1, 2, 2};
        for (int e = 0; e < 8; e++) {
            due("blocks of blocks, shaft(" + e + ")", x.shaft(e), due[e]);
        }
    }

    private static void textFaults() {
        promise = 8;
        dueFault("thread", 1, 6);
        dueFault("thread  ", 1, 8);
        dueFault("thread 1", 1, 8);
        dueFault("thread 1 \n", 1, 10);
        dueFault("thread ;", 1, 7);
        dueFault("thread 1,;", 1, 9);
        dueFault("thread ,1;", 1, 7);
        dueFault("thread 1;;", 1, 9);
        dueFault("thread 1 2;", 1, 9);
        dueFault("thread 1);", 1, 8);
        dueFault("thread (1;", 1, 9);
        dueFault("thread ();", 1, 8);
        dueFault("thread 1*;", 1, 9);
        dueFault("thread 1*2*3;", 1, 10);
        dueFault("thread 1*A;", 1, 9);
        dueFault("thread 1 to 2 to 3;", 1, 14);
        dueFault("thread 1*2 to 3;", 1, 11);
        dueFault("thread to 3;", 1, 7);
        dueFault("thread (1) to 3;", 1, 11);
        dueFault("thread 1 to (3);", 1, 12);
        dueFault("thread 1 To 3;", 1, 9);
        for (String letter : new String[] {"a", "z", "A", "Z", "m"}) {
            dueFault("thread 1 to" + letter + " 3;", 1, 9);
            dueFault("thread 1," + letter + "A;", 1, 9);
        }
        dueFault("thread 1 to@3;", 1, 11);
        dueFault("thread 1 to[3;", 1, 11);
        dueFault("thread 1 to`3;", 1, 11);
        dueFault("thread 1 to{3;", 1, 11);
        dueFault("thread 1/2;", 1, 8);
        dueFault("thread 1:2;", 1, 8);
        dueFault("thread 1 to 9,0 to 9;", 0, -1);
        dueFault("thread mirror 1;", 1, 14);
        dueFault("thread mirror(1;", 1, 15);
        dueFault("thread back;", 1, 11);
        dueFault("thread plus (1);", 1, 12);
        dueFault("thread plus 1 2;", 1, 14);
        dueFault("thread Mirror(1);", 1, 7);
        dueFault("thread mirrors(1);", 1, 7);
        dueFault("thread tie 0 1;", 1, 7);
        dueFault("thread = 1;", 1, 7);
        dueFault("threadd 1;", 1, 0);
        dueFault("threa d 1;", 1, 0);
        dueFault("THREAD 1;", 1, 0);
        dueFault("1;", 1, 0);
        dueFault(";", 1, 0);
        dueFault("A;", 1, 0);
        dueFault("to;", 1, 0);
        dueFault("\tthread 1;", 1, 0);
        dueFault("thread 1;\u0000", 1, 9);
        dueFault("thread 1;\r\n", 1, 9);
        dueFault("thread \u00e9;", 1, 7);
        dueFault("thread -1;", 1, 7);
        dueFault("block", 1, 5);
        dueFault("block a=1;", 1, 6);
        dueFault("block I=1;", 1, 6);
        dueFault("block AB=1;", 1, 6);
        dueFault("block 1=1;", 1, 6);
        dueFault("block A 1;", 1, 8);
        dueFault("block A=;", 1, 8);
        dueFault("block A=1", 1, 9);
        dueFault("blockA=1;", 1, 0);
        dueFault("block A=1;thread AA;", 1, 17);
        dueFault("block A=1;thread I;", 1, 17);
        dueFault("block A=1;thread a;", 1, 17);
        dueFault("tie 1;", 1, 5);
        dueFault("tie A 1;", 1, 4);
        dueFault("tie 1,2;", 1, 5);
        dueFault("tie;", 1, 3);
        dueFault("tread 1 to;", 1, 10);
        dueFault("tread 1\n*\n2\n;", 0, -1);
        dueFault("tie 15 0;", 0, -1);
        dueFault("tie0(1);", 0, -1);

        dueFault("tie 16 1;", 2, 4);
        dueFault("tie 4294967296 1;", 2, 4);
        dueFault("tie 18446744073709551616 1;", 2, 4);
        dueFault("thread 16;", 2, 7);
        dueFault("thread 1,99999999999999999999999;", 2, 9);
        dueFault("thread 1 to 16;", 2, 12);
        dueFault("thread 16 to 1;", 2, 7);
        dueFault("thread 16 x;", 2, 7);
        dueFault("thread 1*0;", 2, 9);
        dueFault("thread 1*49;", 2, 9);
        dueFault("thread 1*48;", 0, -1);
        dueFault("thread plus 16(1);", 2, 12);
        dueFault("thread plus 15(1);", 0, -1);
        dueFault("thread 16;thread;", 2, 7);

        dueFault("block A=1;block A=2;", 4, 16);
        dueFault("block A=1;block B=A;block A=2;", 4, 26);
        dueFault("block A=A;", 4, 8);
        dueFault("block A=1,(2,A);", 4, 13);
        dueFault("thread B;", 4, 7);
        dueFault("thread A;block A=1;", 4, 7);
        dueFault("block A=1;thread A,B;", 4, 19);
        dueFault("block A=1;block A", 4, 16);
        dueFault("block A=1;tie 0 H;", 4, 16);
        dueFault("block H=1;tie 0 H;", 0, -1);
    }

    private static void textBrackets() {
        promise = 8;
        dueFault("thread ((((((((1))))))));", 0, -1);
        dueFault("thread (((((((((1)))))))));", 3, 15);
        dueFault("thread ((((((((1)))))))),((((((((1))))))));", 0, -1);
        dueFault("thread ((((((((1),2))))))),(((((((((1)", 3, 35);
        dueFault("thread ((((((((mirror(1)", 3, 21);
        dueFault("thread ((((((((back 1", 1, 20);
        dueFault("thread ((((((((1(", 1, 16);
        dueFault("thread mirror(mirror(mirror(mirror(mirror(mirror(mirror(mirror(1))))))));", 0, -1);
        dueFault("thread plus 1(plus 1(plus 1(plus 1(plus 1(plus 1(plus 1(plus 1(plus 1(1", 3, 69);
    }

    private static void textTooMany() {
        promise = 8;
        String full = "1*48,1*48,1*48,1*48,1*8";
        dueFault("thread " + full + ";", 0, -1);
        dueFault("thread " + full + ",1;", 5, 31);
        dueFault("thread " + full + ",1 to 1;", 5, 36);
        dueFault("thread " + full + ",1 to 16;", 2, 36);
        dueFault("thread " + full + ",1 to;", 1, 35);
        dueFault("thread " + full + ",16;", 2, 31);
        dueFault("thread " + full + ",1*2;", 5, 31);
        dueFault("thread " + full + ",1*49;", 5, 31);
        dueFault("thread " + full + ",1 1;", 5, 31);
        dueFault("thread " + full + ",1#", 5, 31);
        dueFault("thread " + full + ",1", 5, 31);
        dueFault("thread " + full + ",A;", 4, 31);
        dueFault("block A=2;thread " + full + ",A;", 5, 41);
        dueFault("thread " + full + ",(1);", 5, 33);
        dueFault("thread " + full + ",(1", 1, 33);
        dueFault("thread " + full + ",((1,16));", 2, 35);
        dueFault("thread " + full + ",(((1)));", 5, 37);
        dueFault("thread " + full + ",back(1);", 5, 37);
        dueFault("thread (" + full + ",1);", 5, 32);
        dueFault("thread (" + full + ");", 0, -1);
        dueFault("thread back(" + full + ");", 0, -1);
        dueFault("thread (" + full + ")*1;", 0, -1);
        dueFault("thread (" + full + ")*2;", 5, 33);
        dueFault("thread (" + full + ")*49;", 2, 33);
        dueFault("thread 1,(" + full + ");", 5, 33);
        dueFault("thread 1,(" + full + ")*1;", 5, 33);
        dueFault("thread mirror(1*48,1*48,1*5);", 0, -1);
        dueFault("thread mirror(1*48,1*48,1*6);", 5, 27);
        dueFault("thread 1,mirror(1*48,1*48,1*5);", 5, 29);
        dueFault("thread 1*48,mirror(1*48,1*29);", 0, -1);
        dueFault("thread 1*48,mirror(1*48,1*30);", 5, 28);
        dueFault("thread 1*48,1*48,1*48,1*48,1*7,1;", 0, -1);
        dueFault("thread 1*48,1*48,1*48,1*48,1*7,mirror(1);", 0, -1);
        dueFault("thread 1*48,1*48,1*48,1*48,1*6,mirror(1,2);", 0, -1);
        dueFault("thread 1*48,1*48,1*48,1*48,1*7,mirror(1,2);", 5, 41);
        dueFault("thread (1*20,(1,2,3,4)*45);", 0, -1);
        dueFault("thread (1*48)*4,1*8;", 0, -1);
        dueFault("thread (1*48)*5;", 5, 14);
        dueFault("thread 0 to 15*12,0 to 7;", 0, -1);
        dueFault("thread 0 to 15*12,0 to 8;", 5, 23);
        dueFault("thread 0 to 15*13;", 5, 15);
        dueFault("block A=" + full + ";thread A;", 0, -1);
        dueFault("block A=" + full + ";thread A,A;", 5, 41);
        dueFault("block A=" + full + ";thread A,(A);", 5, 43);
        dueFault("block A=" + full + ",1;", 5, 32);
        dueFault("block A=" + full + ";block B=1,A;", 5, 42);
        dueFault("tie 0 " + full + ",1;", 5, 30);
        String open = times("(1*48,1*48,1*48,1*48,", 8);
        dueFault("thread " + open + "1*48" + times(")", 8) + ";", 5, 177);
        dueFault("thread " + open + "1*8" + times(")", 8) + ";", 5, 178);
        DraftHouse x = told(48, 48, "block A=" + full + ";block B=back(" + full + ");tie 0 A;");
        x.tread(0, 1);
        due("lift of a long tie", x.lift(0), 2);
    }

    private static void textLimits() {
        promise = 8;
        String text = "tie 0 1;" + times(" ", 292);
        due("a text of 300 bytes", tell(new DraftHouse(1, 1), text), 1);
        text = times(" ", 292) + "tie 0 1;";
        due("a text of 300 bytes", tell(new DraftHouse(1, 1), text), 1);
        DraftHouse x = new DraftHouse(1, 1);
        due("300 faulty bytes", tell(x, times(" ", 293) + "tie 0 1"), -1);
        due("its place", x.fault(1), 300);
        due("2016 ENTRIES", tell(x, times("tread0;", 42)), 1);
        due("ENTRIES", x.about(4), 42);
        DraftHouse y = new DraftHouse(1, 48);
        due("2016 ENTRIES", tell(y, times("tread0;", 42)), -1);
        due("its fault", y.fault(0), 0);
        due("its place", y.fault(1), -1);
        due("TIME", y.about(2), 0);
        due("2016 ENTRIES and a fault", tell(y, times("tread0;", 42) + "x"), -1);
        due("its fault", y.fault(0), 1);
        due("its place", y.fault(1), 294);
        due("a text behind it", tell(y, "tie 0 1; tread 0*2,1;"), 1);
        due("ENTRIES", y.about(4), 49);
        due("lift(1)", y.lift(1), 2);
        due("lift(2)", y.lift(2), 0);
        DraftHouse z = new DraftHouse(1, 1);
        due("100 TOKENS of signs", tell(z, times(";", 300)), -1);
        due("its place", z.fault(1), 0);
        due("a NUMBER of 292 digits", tell(z, "tie " + times("0", 292) + "1 2;"), 1);
    }

    private static void fault() {
        promise = 9;
        DraftHouse x = new DraftHouse(1, 1);
        due("fault(0) ahead of any", x.fault(0), -1);
        due("fault(1) ahead of any", x.fault(1), -1);
        x.tie(0, 1);
        due("fault(0) behind a telling by hand", x.fault(0), -1);
        tell(x, "tie 0 16;");
        due("fault(0)", x.fault(0), 2);
        due("fault(1)", x.fault(1), 6);
        due("fault(2)", x.fault(2), -1);
        due("fault(-1)", x.fault(-1), -1);
        put(x, "tie");
        due("it is of the latest text()", x.fault(0), 2);
        x.text();
        due("fault(0)", x.fault(0), 1);
        due("fault(1)", x.fault(1), 3);
        tell(x, "tie 0 1;");
        due("fault(0) without", x.fault(0), 0);
        due("fault(1) without", x.fault(1), -1);
    }

    private static void look() {
        promise = 10;
        DraftHouse x = new DraftHouse(2, 1);
        due("look(0) at first", x.look(0), true);
        due("look(1) at first", x.look(1), false);
        x.thread(0, 3);
        x.thread(0, 5);
        tell(x, "thread 7; tie 0 7; tread 0; thread 8;");
        x.tie(0, 256);
        x.colour(true, 1, 4);
        due("look(-1)", x.look(-1), false);
        due("look(6)", x.look(6), false);
        due("THE LOOK", x.about(3), 5);
        due("look(0)", x.look(0), true);
        due("shaft at 0", x.shaft(0), -1);
        due("lead at 0", x.lead(0, 0, 2), -1);
        due("look(1)", x.look(1), true);
        due("shaft at 1", x.shaft(0), 3);
        due("shaft of another at 1", x.shaft(1), -1);
        due("threaded at 1", x.about(7), 1);
        due("look(2)", x.look(2), true);
        due("shaft at 2", x.shaft(0), 5);
        due("look(3)", x.look(3), true);
        due("shaft at 3", x.shaft(1), 8);
        due("lift at 3", x.lift(0), 128);
        due("row at 3", x.row(0), 0);
        due("look(4)", x.look(4), true);
        due("row at 4", x.row(0), 3);
        due("colour at 4", x.seenColour(1, 0), 0);
        due("TIME", x.about(2), 5);
        due("ENTRIES", x.about(4), 2 + 6 + 2);
        due("a wrong telling", x.thread(2, 0), -1);
        due("leaves THE LOOK", x.about(3), 4);
        due("a telling", x.thread(0, 8), 6);
        due("moves THE LOOK", x.about(3), 6);
        due("colour at 6", x.seenColour(1, 0), 4);
        due("look(2)", x.look(2), true);
        due("shaft at 2", x.shaft(0), 5);
        due("seen tells nothing", x.seen(0, 3), true);
        due("THE LOOK", x.about(3), 2);
        due("SEEN is beside all TIMES", x.wrong(0), 1);
        DraftHouse y = new DraftHouse(3, 1);
        y.thread(0, 3);
        y.thread(1, 4);
        y.look(0);
        due("a telling behind look(0)", y.thread(2, 5), 3);
        due("the first telling is there again", y.shaft(0), 3);
        due("the second too", y.shaft(1), 4);
        y.look(1);
        due("a text behind look(1)", tell(y, "tie 0 1;"), 4);
        due("the second telling is there again", y.shaft(1), 4);
        due("the third too", y.lead(2, 0, 2), 3);
    }

    private static void shaft() {
        promise = 11;
        DraftHouse x = new DraftHouse(3, 1);
        x.thread(1, 15);
        due("shaft(0)", x.shaft(0), -1);
        due("shaft(1)", x.shaft(1), 15);
        due("shaft(3)", x.shaft(3), -1);
        due("shaft(-1)", x.shaft(-1), -1);
        due("shaft(far)", x.shaft(Integer.MAX_VALUE), -1);
    }

    private static void lift() {
        promise = 12;
        DraftHouse x = new DraftHouse(1, 3);
        x.tie(0, 5);
        x.tie(1, 6);
        x.tie(15, 32768);
        x.tread(0, 3);
        x.tread(2, 32770);
        due("lift(0)", x.lift(0), 7);
        due("lift(1)", x.lift(1), 0);
        due("lift(2)", x.lift(2), 32774);
        due("lift(3)", x.lift(3), -1);
        due("lift(-1)", x.lift(-1), -1);
    }

    private static void row() {
        promise = 13;
        DraftHouse x = told(48, 2, "thread 0 to 2; tie 0 0,2; tread 0;");
        long want = 0;
        for (int e = 0; e < 48; e++) {
            want |= e % 3 == 1 ? 0 : 1L << e;
        }
        due("row(0)", x.row(0), want);
        due("row(1)", x.row(1), want);
        due("row(2)", x.row(2), -1);
        due("row(-1)", x.row(-1), -1);
        x.thread(47, 1);
        due("row(0)", x.row(0), want & ~(1L << 47));
        x.thread(47, -1);
        x.tie(0, 65535);
        due("an END without a SHAFT is never UP", x.row(0), (1L << 47) - 1);
    }

    private static void lead() {
        promise = 14;
        DraftHouse x = new DraftHouse(3, 2);
        x.thread(0, 4);
        x.tie(9, 16);
        x.tie(3, 48);
        x.tie(1, 16);
        x.tread(0, 1 << 9 | 1 << 3);
        due("0", x.lead(0, 0, 0), 4);
        due("1", x.lead(0, 0, 1), 3);
        due("2", x.lead(0, 0, 2), 1);
        due("3", x.lead(0, 0, 3), 5);
        due("4", x.lead(0, 0, 4), -1);
        due("-1", x.lead(0, 0, -1), -1);
        due("1 of a PICK without TREAD", x.lead(0, 1, 1), -1);
        due("3 of a PICK without TREAD", x.lead(0, 1, 3), -1);
        due("0 of an END without SHAFT", x.lead(1, 0, 0), -1);
        due("1 of an END without SHAFT", x.lead(1, 0, 1), -1);
        due("2 of an END without SHAFT", x.lead(1, 0, 2), -1);
        x.thread(1, -1);
        due("2 of an END that was told NONE", x.lead(1, 0, 2), 6);
        due("0 of an END that was told NONE", x.lead(1, 0, 0), -1);
        x.tread(1, 0);
        due("3 of a PICK that was told none", x.lead(0, 1, 3), 7);
        x.thread(0, 5);
        due("2 of an END told anew", x.lead(0, 0, 2), 8);
        x.look(5);
        due("2 at an earlier LOOK", x.lead(0, 0, 2), 1);
        due("2 at an earlier LOOK", x.lead(1, 0, 2), -1);
        due("end 3", x.lead(3, 0, 0), -1);
        due("end -1", x.lead(-1, 0, 2), -1);
        due("pick 2", x.lead(0, 2, 0), -1);
        due("pick -1", x.lead(0, -1, 2), -1);
        tell(x, "thread 4; tie 0 4; thread 4;");
        due("2 of a text", x.lead(2, 0, 2), 9);
        due("1 of a TREADLE not trod", x.lead(2, 0, 1), 3);
        tell(x, "thread 0; tie 0 0; tie 15 0; tread 15, 0;");
        due("SHAFT 0 by TREADLE 15", x.lead(2, 0, 1), 15);
        due("SHAFT 0 by TREADLE 0", x.lead(2, 1, 1), 0);
    }

    private static void longest() {
        promise = 15;
        DraftHouse x = cloth(
            "xx.x",
            "x..x",
            "....",
            "x...");
        due("warp", x.longest(true, false), 2);
        due("warp over", x.longest(true, true), 3);
        due("weft", x.longest(false, false), 4);
        due("weft over", x.longest(false, true), 4);
        DraftHouse all = cloth("xx", "xx", "xx");
        due("all warp", all.longest(true, false), 3);
        due("all warp over", all.longest(true, true), 3);
        due("no weft", all.longest(false, false), 0);
        due("no weft over", all.longest(false, true), 0);
        DraftHouse none = new DraftHouse(48, 48);
        due("no warp", none.longest(true, true), 0);
        due("all weft", none.longest(false, true), 48);
        DraftHouse edge = cloth(".x.", ".x.");
        due("weft at the edges", edge.longest(false, false), 1);
        due("weft over the edge", edge.longest(false, true), 2);
        DraftHouse one = cloth("x");
        due("one CELL", one.longest(true, true), 1);
        due("one CELL", one.longest(false, true), 0);
    }

    private static void floats() {
        promise = 16;
        DraftHouse x = cloth(
            "xx.x",
            "x..x",
            "....",
            "x...");
        due("warp > 0", x.floats(true, false, 0), 4);
        due("warp > 1", x.floats(true, false, 1), 2);
        due("warp > 2", x.floats(true, false, 2), 0);
        due("warp over > 0", x.floats(true, true, 0), 3);
        due("warp over > 2", x.floats(true, true, 2), 1);
        due("weft > 0", x.floats(false, false, 0), 4);
        due("weft > 1", x.floats(false, false, 1), 3);
        due("weft > 3", x.floats(false, false, 3), 1);
        due("weft > 4", x.floats(false, false, 4), 0);
        due("weft over > 2", x.floats(false, true, 2), 2);
        due("n below 0", x.floats(true, false, Integer.MIN_VALUE), 4);
        due("n far", x.floats(true, false, Integer.MAX_VALUE), 0);
        DraftHouse none = new DraftHouse(48, 47);
        due("weft of a bare cloth", none.floats(false, true, 47), 47);
        due("weft of a bare cloth", none.floats(false, true, 48), 0);
        due("warp of a bare cloth", none.floats(true, true, -1), 0);
        DraftHouse edge = cloth(".x.", "...");
        due("weft at the edges", edge.floats(false, false, 0), 3);
        due("weft over the edge", edge.floats(false, true, 0), 2);
    }

    private static void layers() {
        promise = 17;
        DraftHouse plain = cloth("x.x.", ".x.x", "x.x.", ".x.x");
        due("plain weave", plain.layers(0, 3, 0, 3), 1);
        due("two by two", plain.layers(1, 2, 2, 3), 1);
        due("one END", plain.layers(1, 1, 0, 3), 5);
        due("one CELL", plain.layers(3, 3, 3, 3), 2);
        // a plain weave of ENDS 0, 2 and PICKS 0, 2 lies over one of ENDS 1, 3 and PICKS 1, 3
        DraftHouse two = cloth("x...", "xxx.", "..x.", "x.xx");
        due("double cloth", two.layers(0, 3, 0, 3), 2);
        due("a < 0", plain.layers(-1, 3, 0, 3), -1);
        due("b = WIDE", plain.layers(0, 4, 0, 3), -1);
        due("c < 0", plain.layers(0, 3, -1, 3), -1);
        due("d = LONG", plain.layers(0, 3, 0, 4), -1);
        due("a > b", plain.layers(2, 1, 0, 3), -1);
        due("c > d", plain.layers(0, 3, 3, 2), -1);
        due("far", plain.layers(Integer.MIN_VALUE, Integer.MAX_VALUE, 0, 3), -1);
        due("from END 0", two.layers(0, 2, 0, 2), 2 + 1);
        due("from END 1", two.layers(1, 2, 0, 2), 5);
        due("to END 3", two.layers(1, 3, 0, 2), 6);
        due("from PICK 1", two.layers(1, 3, 1, 2), 5);
        due("to PICK 3", two.layers(1, 3, 1, 3), 3);
        // END 0 lies on top and PICK 3 below all; what is between holds by one long chain
        DraftHouse chain = cloth("x..x", "xx..", "xxx.", "xxxx");
        due("a chain", chain.layers(0, 3, 0, 3), 3);
        DraftHouse bare = new DraftHouse(48, 48);
        due("bare", bare.layers(0, 47, 0, 47), 96);
        tell(bare, "thread 0 to 1; tie 0 0; tie 1 1; tread 0, 1;");
        due("a told cloth is sorted anew", bare.layers(0, 47, 0, 47), 1);
        bare.look(0);
        due("and by THE LOOK", bare.layers(0, 47, 0, 47), 96);
    }

    private static void layer() {
        promise = 18;
        DraftHouse two = cloth("x...", "xxx.", "..x.", "x.xx");
        int[] want = {0, 1, 0, 1, 0, 1, 0, 1};
        for (int s = 0; s < 8; s++) {
            due("double cloth, " + s, two.layer(0, 3, 0, 3, s), want[s]);
        }
        due("strand -1", two.layer(0, 3, 0, 3, -1), -1);
        due("strand 8", two.layer(0, 3, 0, 3, 8), -1);
        due("strand far", two.layer(0, 3, 0, 3, Integer.MIN_VALUE), -1);
        due("strand far", two.layer(0, 3, 0, 3, Integer.MAX_VALUE), -1);
        due("END beside the part", two.layer(1, 2, 1, 2, 0), -1);
        due("END beside the part", two.layer(1, 2, 1, 2, 3), -1);
        due("PICK beside the part", two.layer(1, 2, 1, 2, 4), -1);
        due("PICK beside the part", two.layer(1, 2, 1, 2, 7), -1);
        due("no part", two.layer(2, 1, 0, 3, 2), -1);
        due("no part", two.layer(0, 4, 0, 3, 2), -1);
        // END 1 is above PICK 1 and below PICK 2; END 2 is above both
        due("END 2", two.layer(1, 2, 1, 2, 2), 0);
        due("PICK 2", two.layer(1, 2, 1, 2, 6), 1);
        due("END 1", two.layer(1, 2, 1, 2, 1), 2);
        due("PICK 1", two.layer(1, 2, 1, 2, 5), 3);
        DraftHouse bare = new DraftHouse(3, 2);
        int[] order = {2, 3, 4, 0, 1};
        for (int s = 0; s < 5; s++) {
            due("bare, " + s, bare.layer(0, 2, 0, 1, s), order[s]);
        }
        // each LAYER is a STRAND, in a mixed order
        DraftHouse late = cloth("...", ".xx", "...");
        due("PICK 0", late.layer(0, 2, 0, 2, 3), 0);
        due("PICK 2", late.layer(0, 2, 0, 2, 5), 1);
        due("END 1", late.layer(0, 2, 0, 2, 1), 2);
        due("END 2", late.layer(0, 2, 0, 2, 2), 3);
        due("PICK 1", late.layer(0, 2, 0, 2, 4), 4);
        due("END 0", late.layer(0, 2, 0, 2, 0), 5);
    }

    private static void seenColour() {
        promise = 19;
        DraftHouse x = cloth("x.", ".x");
        x.colour(true, 0, 3);
        x.colour(false, 0, 7);
        x.colour(false, 1, 9);
        due("UP", x.seenColour(0, 0), 3);
        due("not UP", x.seenColour(1, 0), 7);
        due("not UP", x.seenColour(0, 1), 9);
        due("UP, not told", x.seenColour(1, 1), 0);
        due("end 2", x.seenColour(2, 0), -1);
        due("end -1", x.seenColour(-1, 0), -1);
        due("pick 2", x.seenColour(0, 2), -1);
        due("pick -1", x.seenColour(0, -1), -1);
    }

    private static void coloured() {
        promise = 20;
        DraftHouse x = cloth("xx.", ".x.", "...");
        x.colour(true, 0, 3);
        x.colour(true, 1, 5);
        x.colour(true, 2, 9);
        x.colour(false, 0, 5);
        x.colour(false, 1, 9);
        due("0", x.coloured(0), 3);
        due("3", x.coloured(3), 1);
        due("5", x.coloured(5), 3);
        due("9", x.coloured(9), 2);
        due("1", x.coloured(1), 0);
        x.colour(true, 1, 3);
        due("two ENDS of 3", x.coloured(3), 3);
        due("10", x.coloured(10), -1);
        due("-1", x.coloured(-1), -1);
    }

    private static void period() {
        promise = 21;
        DraftHouse x = cloth("xx.xx.x", ".x..x..", "xx.xx.x", ".x..x..", "xx.xx.x");
        due("CELLS along ENDS", x.period(true, false), 3);
        due("CELLS along PICKS", x.period(false, false), 2);
        due("COLOURS along ENDS", x.period(true, true), 1);
        due("COLOURS along PICKS", x.period(false, true), 1);
        x.colour(true, 6, 8);
        due("COLOURS along ENDS", x.period(true, true), 7);
        due("COLOURS along PICKS", x.period(false, true), 2);
        x.colour(true, 0, 8);
        x.colour(true, 3, 8);
        due("COLOURS along ENDS", x.period(true, true), 3);
        x.colour(false, 4, 1);
        due("COLOURS along PICKS", x.period(false, true), 5);
        due("CELLS along PICKS", x.period(false, false), 2);
        DraftHouse none = cloth("xx.", "x..");
        due("none below WIDE", none.period(true, false), 3);
        due("none below LONG", none.period(false, false), 2);
        DraftHouse ends = cloth("x.x");
        due("only the ends are like", ends.period(true, false), 2);
        due("LONG 1", ends.period(false, false), 1);
        due("bare", new DraftHouse(48, 48).period(true, false), 1);
        DraftHouse edge = new DraftHouse(48, 48);
        edge.colour(false, 47, 1);
        due("the last PICK alone", edge.period(false, true), 48);
        due("along ENDS", edge.period(true, true), 1);
        DraftHouse two = new DraftHouse(1, 4);
        two.colour(false, 1, 8);
        two.colour(false, 3, 9);
        due("8 and 9 are unlike", two.period(false, true), 4);
        two.colour(false, 3, 8);
        due("8 and 8 are like", two.period(false, true), 2);
        two.colour(false, 0, 2);
        due("2 and 0 are unlike", two.period(false, true), 4);
        due("CELLS, asked behind COLOURS", two.period(false, false), 1);
    }

    private static void fewest() {
        promise = 22;
        DraftHouse x = cloth("xx..x", "xx..x", ".....", "xx.x.");
        due("SHAFTS", x.fewest(false), 3);
        due("TREADLES", x.fewest(true), 2);
        DraftHouse bare = new DraftHouse(48, 48);
        due("bare SHAFTS", bare.fewest(false), 0);
        due("bare TREADLES", bare.fewest(true), 0);
        DraftHouse all = cloth("xx", "xx");
        due("all SHAFTS", all.fewest(false), 1);
        due("all TREADLES", all.fewest(true), 1);
    }

    private static void pegs() {
        promise = 23;
        DraftHouse x = new DraftHouse(3, 4);
        x.thread(0, 2);
        x.thread(1, 9);
        x.thread(2, 2);
        x.tie(0, 1 << 2 | 1 << 5 | 1 << 15);
        x.tie(1, 1 << 9 | 1 << 2);
        x.tread(0, 1);
        x.tread(1, 2);
        x.tread(2, 3);
        due("PEGS", x.pegs(false), 3 + 2 + 4);
        due("TURNED", x.pegs(true), 1 + 0 + 0 + 2);
        DraftHouse bare = new DraftHouse(4, 4);
        due("bare", bare.pegs(false), 0);
        due("bare", bare.pegs(true), 0);
        bare.thread(0, 0);
        due("an END alone", bare.pegs(true), 4);
    }

    private static DraftHouse lifted(int... lifts) {
        DraftHouse x = new DraftHouse(16, lifts.length);
        tell(x, "thread 0 to 15;");
        for (int p = 0; p < lifts.length; p++) {
            x.tie(p, lifts[p]);
            x.tread(p, 1 << p);
        }
        return x;
    }

    private static void dueCover(DraftHouse x, int... ties) {
        due("cover(NONE)", x.cover(-1), ties.length);
        for (int i = 0; i < ties.length; i++) {
            due("cover(" + i + ")", x.cover(i), ties[i]);
        }
        due("cover behind the last", x.cover(ties.length), -1);
        due("cover(-2)", x.cover(-2), -1);
        due("cover(far)", x.cover(Integer.MAX_VALUE), -1);
        due("cover(far)", x.cover(Integer.MIN_VALUE), -1);
    }

    private static void cover() {
        promise = 24;
        dueCover(new DraftHouse(4, 4));
        dueCover(lifted(6), 6);
        dueCover(lifted(6, 6, 0, 6), 6);
        dueCover(lifted(9, 6, 1), 1, 6, 9);
        // three LIFTS that are put together of two TIES, each of them what two LIFTS have in common
        dueCover(lifted(3, 12, 15), 3, 12);
        dueCover(lifted(3, 6, 7), 3, 6);
        dueCover(lifted(7, 1, 2, 4), 1, 2, 4);
        dueCover(lifted(3, 6, 12), 3, 6, 12);
        // 3, 5, 6 would do too, but 1, 2, 4 come first, and each is what two LIFTS have in common
        dueCover(lifted(3, 5, 6, 7), 1, 2, 4);
        // 19 has what no other LIFT has, but 7 has no part of its own: 1, 2, 4 would be too many
        dueCover(lifted(19, 37, 70, 7), 7, 19, 37, 70);
        // 2 is in common, but 1 and 4 are not, so that no other TIES will do
        dueCover(lifted(3, 6), 3, 6);
        dueCover(lifted(1, 2, 4, 8, 16), 1, 2, 4, 8, 16);
        dueCover(lifted(1, 2, 3, 1, 2, 3, 0, 5, 6), 1, 2, 4);
        dueCover(lifted(65535, 32767, 32768), 32767, 32768);
        // each of the 16 SHAFTS lies in three or more of the five LIFTS, no two of them in the same ones
        dueCover(lifted(43895, 52667, 61917, 65054, 65504), 43895, 52667, 61917, 65054, 65504);
        DraftHouse six = lifted(1, 2, 4, 8, 16, 32);
        due("six LIFTS", six.cover(-1), -1);
        due("six LIFTS", six.cover(0), -1);
        six.thread(5, -1);
        dueCover(six, 1, 2, 4, 8, 16);
        six.look(0);
        dueCover(six);
        // SHAFTS that no END has don't count: 1 | 64 and 1 are like then
        DraftHouse part = new DraftHouse(1, 3);
        part.thread(0, 0);
        part.tie(0, 65);
        part.tie(1, 1);
        part.tie(2, 64);
        tell(part, "tread 0 to 2;");
        dueCover(part, 1);
        dueCover(lifted(11, 1, 3, 8, 10), 1, 2, 8);
        // what the LIFTS have in common is worked out anew
        DraftHouse anew = lifted(1, 2);
        dueCover(anew, 1, 2);
        anew.tie(0, 3);
        dueCover(anew, 2, 3);
    }

    private static void seen() {
        promise = 25;
        DraftHouse x = new DraftHouse(3, 2);
        due("seen(0)", x.seen(0, 5), true);
        due("seen(1)", x.seen(1, -1L), true);
        due("seen(2)", x.seen(2, 0), false);
        due("seen(-1)", x.seen(-1, 0), false);
        due("seen(far)", x.seen(Integer.MIN_VALUE, 0), false);
        due("wrong(0)", x.wrong(0), 2);
        due("wrong(1)", x.wrong(1), 1);
        due("seen(1) anew", x.seen(1, 8), true);
        due("bits beyond WIDE", x.wrong(0), 1);
        due("bits beyond WIDE", x.wrong(1), 0);
        due("TIME", x.about(2), 0);
        due("ENTRIES", x.about(4), 0);
        DraftHouse all = new DraftHouse(48, 48);
        all.seen(47, 1L << 47);
        due("the last CELL", all.wrong(47), 1);
        due("beside it", all.wrong(46), 0);
        DraftHouse moved = new DraftHouse(3, 1);
        moved.seen(0, 8);
        due("SEEN has no more than WIDE", moved.shifted(true), 0);
    }

    private static void wrongCells() {
        promise = 26;
        DraftHouse x = cloth("x..", "x..", "xx.");
        x.seen(0, 1);
        x.seen(1, 2);
        x.seen(2, 4);
        due("wrong(0)", x.wrong(0), 2);
        due("wrong(1)", x.wrong(1), 2);
        due("wrong(2)", x.wrong(2), 1);
        due("wrong(3)", x.wrong(3), -1);
        due("wrong(-1)", x.wrong(-1), -1);
        x.look(0);
        due("by THE LOOK", x.wrong(0), 1);
    }

    private static void nearest() {
        promise = 27;
        DraftHouse x = new DraftHouse(4, 4);
        tell(x, "thread 3, 3, 5, 1; tie 0 1; tie 1 2,4; tie 2 3; tread 0 to 3;");
        // SHAFT 1: PICK 0; SHAFTS 2, 4: PICK 1; SHAFT 3: PICK 2
        due("SEEN without any: NONE", x.nearest(0, 0), -1);
        due("and is like", x.nearest(0, 1), 0);
        due("its own one is like", x.nearest(2, 0), 5);
        x.seen(1, 1);
        due("the lower of 2 and 4", x.nearest(0, 0), 2);
        due("without faults", x.nearest(0, 1), 0);
        x.seen(3, 3);
        x.seen(1, 0);
        x.seen(2, 2);
        due("NONE ahead of others", x.nearest(0, 0), -1);
        due("with one fault", x.nearest(0, 1), 1);
        due("its own one with a fault", x.nearest(1, 0), 3);
        due("its own one with a fault", x.nearest(1, 1), 1);
        x.seen(2, 0);
        x.seen(0, 8);
        x.seen(1, 8);
        due("its own one ahead of NONE", x.nearest(3, 0), 1);
        due("with one fault", x.nearest(3, 1), 1);
        x.thread(3, -1);
        due("the lowest", x.nearest(3, 0), 1);
        x.thread(3, 4);
        due("its own one ahead of a lower one", x.nearest(3, 0), 4);
        due("what 2", x.nearest(0, 2), -2);
        due("what -1", x.nearest(0, -1), -2);
        due("end 4", x.nearest(4, 0), -2);
        due("end -1", x.nearest(-1, 1), -2);
    }

    private static void see(DraftHouse x, String... rows) {
        for (int p = 0; p < rows.length; p++) {
            long row = 0;
            for (int e = 0; e < rows[p].length(); e++) {
                row |= rows[p].charAt(e) == 'x' ? 1L << e : 0;
            }
            due("seen", x.seen(p, row), true);
        }
    }

    private static void dueMended(DraftHouse x, int cost, int treadle, int shaft, int... shafts) {
        due("mended(0)", x.mended(0), cost);
        due("mended(1)", x.mended(1), treadle);
        due("mended(2)", x.mended(2), shaft);
        for (int e = 0; e < shafts.length; e++) {
            due("mendedShaft(" + e + ")", x.mendedShaft(e), shafts[e]);
        }
    }

    private static void mended() {
        promise = 28;
        DraftHouse x = new DraftHouse(4, 3);
        tell(x, "thread 0 to 3; tie 0 0,1; tie 1 2,3; tie 2 0,2; tread 0 to 2;");
        see(x, "xx..", "..xx", "x.x.");
        dueMended(x, 0, -1, -1, 0, 1, 2, 3);
        see(x, "xx.x", "..x.", "x.x.");
        dueMended(x, 1, -1, -1, 0, 1, 2, 1);
        // a TIE costs 1, as much as one END: the TIES stay
        see(x, "xx..", "..xx", "xxx.");
        dueMended(x, 1, -1, -1, 0, 0, 2, 3);
        // only a TIE with one SHAFT more can do that
        see(x, "xx..", ".xxx", "x.x.");
        dueMended(x, 1, 1, 1, 0, 1, 2, 3);
        // ... with one SHAFT less
        see(x, "x...", "..xx", "x.x.");
        dueMended(x, 1, -1, -1, 0, -1, 2, 3);
        see(x, "x...", ".xxx", "x.x.");
        dueMended(x, 1, -1, -1, 0, 3, 2, 3);
        // SHAFT 3 in TREADLE 0 too, and all ENDS but its own on it
        see(x, "xxxx", "xxxx", "....");
        dueMended(x, 4, 0, 3, 3, 3, 3, 3);
        // two changes of TIES would be needed
        see(x, "xx..", "xx..", ".x..");
        dueMended(x, -2, -2, -2, -2, -2, -2, -2);
        due("mended(3)", x.mended(3), -2);
        due("mended(-1)", x.mended(-1), -2);

        DraftHouse y = new DraftHouse(3, 2);
        tell(y, "thread 0; tie 3 0; tie 5 0; tread 3, 5;");
        see(y, "xxx", "...");
        dueMended(y, 1, 5, 0, 0, 0, 0);
        see(y, "...", "...");
        dueMended(y, 3, -1, -1, -1, -1, -1);
        // each of SHAFTS 1 to 15 would do alike in TREADLE 5: the lowest one
        see(y, "x..", "xxx");
        dueMended(y, 2 + 1, 5, 1, 0, 1, 1);
        // and here SHAFT 0 out of TREADLE 3 costs less
        see(y, "...", "xxx");
        dueMended(y, 1, 3, 0, 0, 0, 0);

        // both TREADLES are trod on all PICKS: the lowest one
        DraftHouse z = new DraftHouse(2, 2);
        tell(z, "thread 4;");
        z.tread(0, 65472);
        z.tread(1, 65472);
        see(z, "xx", "xx");
        dueMended(z, 1, 6, 4, 4, 4);
        due("mended(3)", z.mended(3), -2);
        due("mended(-1)", z.mended(-1), -2);
        z.look(0);
        dueMended(z, -2, -2, -2, -2, -2);
    }

    private static void mendedShaft() {
        promise = 29;
        DraftHouse x = new DraftHouse(3, 2);
        tell(x, "thread 7; tie 0 9,2; tie 1 4; tread 0,1;");
        see(x, "x..", ".x.");
        dueMended(x, 2, -1, -1, 2, 4, 7);
        due("end 3", x.mendedShaft(3), -2);
        due("end -1", x.mendedShaft(-1), -2);
        x.thread(0, 9);
        dueMended(x, 1, -1, -1, 9, 4, 7);
        see(x, "...", ".x.");
        dueMended(x, 2, -1, -1, -1, 4, 7);
        due("nothing is told by it", x.shaft(1), 7);
        see(x, "xxx", "xxx");
        dueMended(x, 3, 1, 9, 9, 9, 9);
        due("nothing is told by it", x.lift(0), 516);
        see(x, "x.x", "xxx");
        dueMended(x, 3, 1, 9, 9, 4, 9);
        x.look(0);
        dueMended(x, -2, -2, -2, -2, -2, -2);
    }

    private static void shifted() {
        promise = 30;
        DraftHouse x = cloth("xx..", "....", "..x.");
        see(x, "xx..", "....", "..x.");
        due("dx of none", x.shifted(true), 0);
        due("dy of none", x.shifted(false), 0);
        see(x, ".xx.", "....", "...x");
        due("dx 1", x.shifted(true), 1);
        due("dy 0", x.shifted(false), 0);
        see(x, "x...", "..xx", "....");
        due("dx 2", x.shifted(true), 2);
        due("dy 1", x.shifted(false), 1);
        see(x, "....", ".x..", "x..x");
        due("dx 3", x.shifted(true), 3);
        due("dy 2", x.shifted(false), 2);
        see(x, "....", ".x..", "xx.x");
        due("it isn't", x.shifted(true), -1);
        due("it isn't", x.shifted(false), -1);
        DraftHouse twill = cloth("x...", ".x..", "..x.", "...x");
        see(twill, ".x..", "..x.", "...x", "x...");
        due("the first by dy", twill.shifted(false), 0);
        due("then dx", twill.shifted(true), 1);
        DraftHouse bare = new DraftHouse(48, 48);
        due("bare", bare.shifted(true), 0);
        bare.seen(0, 1);
        due("bare and one CELL", bare.shifted(true), -1);
        bare.thread(47, 0);
        bare.tie(0, 1);
        bare.tread(47, 1);
        due("over both edges", bare.shifted(true), 1);
        due("over both edges", bare.shifted(false), 1);
        bare.seen(0, 3);
        bare.thread(46, 0);
        due("over both edges", bare.shifted(true), 2);
        bare.thread(45, 0);
        bare.seen(1, 1);
        due("as many CELLS, but not so", bare.shifted(true), -1);
        due("as many CELLS, but not so", bare.shifted(false), -1);
    }

    private static void about() {
        promise = 31;
        DraftHouse x = told(5, 3, "thread 0,1; tie 0 0; tread 0;");
        x.thread(4, -1);
        x.colour(true, 0, 1);
        x.feed(0, 0, 0, 0, 0);
        x.end(3);
        x.look(2);
        int[] want = {5, 3, 3, 2, 5 + 1 + 3 + 1 + 1, 6, 3, 4};
        for (int i = 0; i < want.length; i++) {
            due("about(" + i + ")", x.about(i), want[i]);
        }
        x.look(1);
        due("UP by THE LOOK", x.about(5), 9);
        due("threaded by THE LOOK", x.about(7), 5);
        due("ENTRIES are all", x.about(4), 11);
        due("about(8)", x.about(8), -1);
        due("about(-1)", x.about(-1), -1);
        due("about(far)", x.about(Integer.MIN_VALUE), -1);
    }
}
