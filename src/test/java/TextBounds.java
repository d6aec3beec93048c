/** The bounds of texts: part II of the terms, promises 8 and 9; below, at and beyond each, and what a FAULT leaves. */
public final class TextBounds {
    private static final String[] CLAUSES = {"thread ", "tread ", "tie 0 ", "block A = "};
    /** Each kind of bracket, as it is opened. */
    private static final String[] BRACKETS = {"(", "mirror(", "back(", "plus 3 ("};
    private static final String[] TOO_LONG = {"99", "100", "255", "256", "999", "1000", "1016", "65536", "65551",
        "2147483647", "2147483648", "4294967295", "4294967296", "4294967311", "18446744073709551616",
        "18446744073709551631", "340282366920938463463374607431768211456"};

    public static void main(String[] args) {
        bytes();
        lengths();
        byteKinds();
        blanks();
        noClause();
        letters();
        numbersOfRows();
        numbersOfTreadles();
        numbersOfTimes();
        numbersOfSums();
        ranges();
        sums();
        mirrors();
        backs();
        bareBrackets();
        brackets();
        blocks();
        rowsAlongEnds();
        rowsAlongPicks();
        setsOfTies();
        endOfText();
        firstOfFaults();
        leastOfFaults();
        manyNumbers();
        manyByOneToken();
        manyInBrackets();
        manyByMirrors();
        manyByTimes();
        oneTelling();
        faultsOfTexts();
        faultyTexts();
        Sentences.finish();
    }

    private static void due(String what, long got, long want) {
        Sentences.due(what, got, want);
    }

    /** FAULT 0: the text is taken. */
    private static void dueFault(String text, int fault, int place) {
        DraftHouse x = new DraftHouse(48, 48);
        due("text() of " + text, Tapes.tell(x, text), fault == 0 ? 1 : -1);
        due("fault(0) of " + text, x.fault(0), fault);
        due("fault(1) of " + text, x.fault(1), place);
        due("TIME behind " + text, x.about(2), fault == 0 ? 1 : 0);
        due("bytes behind " + text, x.about(6), 0);
        if (fault != 0) {
            due("ENTRIES behind " + text, x.about(4), 0);
        }
    }

    private static void dueTaken(String text) {
        dueFault(text, 0, -1);
    }

    /** The SHAFTS of 48 ENDS by a ROW. */
    private static void dueRow(String row, int... numbers) {
        DraftHouse x = new DraftHouse(48, 1);
        due("thread " + row, Tapes.tell(x, "thread " + row + ";"), 1);
        for (int end = 0; end < 48; end++) {
            due("shaft(" + end + ") of " + row, x.shaft(end), numbers[end % numbers.length]);
        }
    }

    /** A ROW of so many numbers. */
    private static String row(int size) {
        StringBuilder text = new StringBuilder();
        for (int left = size; left > 0; left -= 48) {
            text.append(text.length() == 0 ? "" : ",").append("7*").append(Math.min(48, left));
        }
        return text.toString();
    }

    private static void bytes() {
        Sentences.says("TEXTS of up to 300 bytes");
        for (int size = 297; size <= 300; size++) {
            dueTaken("tie 0 1;" + " ".repeat(size - 8));
            dueTaken(" ".repeat(size - 8) + "tie 0 1;");
            dueTaken("tie 0 " + "0".repeat(size - 8) + "1;");
            dueFault(" ".repeat(size - 8) + "tie 0 1,", 1, size);
            dueFault(" ".repeat(size - 1) + "9", 1, size - 1);
            dueFault("x".repeat(size), 1, 0);
            dueFault("9".repeat(size), 1, 0);
            dueFault("tie 0 " + "9".repeat(size - 6), 2, 6);
            dueFault(";".repeat(size), 1, 0);
        }
        // as many TOKENS as bytes: all of them are come to
        dueTaken("tie 0 1" + ",2".repeat(146) + ";");
        dueFault("tie 0 1" + ",2".repeat(146) + ",", 1, 300);
        dueTaken("tread0;".repeat(41) + "tie0(((1)));");
    }

    private static void lengths() {
        Sentences.says("The tape (empty then) is a text that is told");
        DraftHouse x = new DraftHouse(2, 2);
        Tapes.put(x, "thread 4;");
        due("bytes ahead", x.about(6), 9);
        due("text()", x.text(), 1);
        due("bytes behind", x.about(6), 0);
        due("text() again, of none", x.text(), 2);
        due("ENTRIES", x.about(4), 2);
        Tapes.put(x, "thread 5");
        due("text() with a FAULT", x.text(), -1);
        due("bytes behind", x.about(6), 0);
        due("its place", x.fault(1), 8);
        due("text() again, of none", x.text(), 3);
        due("its FAULT", x.fault(0), 0);
        due("its place", x.fault(1), -1);
        due("shaft(0)", x.shaft(0), 4);
    }

    private static boolean isBlank(int sign) {
        return sign == 32 || sign == 10;
    }

    private static boolean isLetter(int sign) {
        return sign >= 65 && sign <= 90 || sign >= 97 && sign <= 122;
    }

    private static boolean isDigit(int sign) {
        return sign >= 48 && sign <= 57;
    }

    private static void byteKinds() {
        Sentences.says("letters a .. z, A .. Z one behind the other (one TOKEN), digits likewise (NUMBERS), = , ; * ( )");
        for (int sign = 0; sign < 256; sign++) {
            String b = String.valueOf((char) sign);
            int digit = sign - 48;
            if (isBlank(sign)) {
                dueTaken(b);
                dueTaken("thread" + b + "1;");
                dueTaken("thread 1" + b + ";");
                dueTaken("thread 1 to" + b + "3;");
                dueTaken("thread 1;" + b);
                dueFault("thre" + b + "ad 1;", 1, 0);
                dueFault("thread 1" + b + "1;", 1, 9);
            } else if (isDigit(sign)) {
                dueFault(b, 1, 0);
                dueFault("thread" + b + "1;", digit < 2 ? 0 : 2, digit < 2 ? -1 : 6);
                dueFault("thread 1" + b + ";", digit < 6 ? 0 : 2, digit < 6 ? -1 : 7);
                dueFault("thread 1 to" + b + "3;", digit < 2 ? 0 : 2, digit < 2 ? -1 : 11);
                dueFault("thre" + b + "ad 1;", 1, 0);
                dueFault("thread 0" + b + "0" + b + ";", digit == 0 ? 0 : 2, digit == 0 ? -1 : 7);
            } else if (isLetter(sign)) {
                dueFault(b, 1, 0);
                dueFault("thread" + b + " 1;", 1, 0);
                dueFault(b + "thread 1;", 1, 0);
                dueFault("thread 1" + b + ";", 1, 8);
                dueFault("thread 1 to" + b + " 3;", 1, 9);
                dueFault("thread " + b + b + ";", 1, 7);
            } else {
                boolean goesOn = sign == ',' || sign == ';' || sign == '*';
                dueFault(b, 1, 0);
                dueFault("thread" + b + "1;", 1, sign == '(' ? 8 : 6);
                dueFault("thread 1" + b + ";", 1, goesOn ? 9 : 8);
                dueFault("thread 1 to" + b + "3;", 1, 11);
                dueFault("thread 1;" + b, 1, 9);
                dueFault("block A" + b + "1;", sign == '=' ? 0 : 1, sign == '=' ? -1 : 7);
            }
        }
        dueTaken("block A=1,(2)*3;");
    }

    private static void blanks() {
        Sentences.says("TOKENS, blanks (32, 10) aside");
        String[] tokens = {"block", "A", "=", "1", "to", "3", "*", "2", ",", "mirror", "(", "4", ",", "5", ")", ";", "thread", "A",
            ",", "back", "(", "A", ")", ",", "plus", "3", "(", "6", ")", "*", "2", ";", "tie", "15", "7", ";", "tread", "8", ";"};
        for (String blank : new String[] {" ", "\n", "  ", " \n ", "\n\n"}) {
            String text = String.join(blank, tokens);
            dueTaken(text);
            dueTaken(blank + text + blank);
        }
        // where no two letters or digits would come together, none is needed
        dueTaken("block A=1to3*2,mirror(4,5);thread A,back(A),plus3(6)*2;tie15 7;tread8;");
        dueFault("blockA=1;", 1, 0);
        dueFault("threadA;", 1, 0);
        dueFault("block A=1;thread AA;", 1, 17);
        dueTaken("block A=1;thread A,A;");
        dueFault("tie157;", 2, 3);
        dueFault("tie15;", 1, 5);
        dueFault("thread 1\t;", 1, 8);
        dueFault("thread 1\r\n;", 1, 8);
        dueFault("thread 1\u000b;", 1, 8);
        dueFault("thread 1\u00a0;", 1, 8);
    }

    private static void noClause() {
        Sentences.says("{CLAUSE}");
        for (String text : new String[] {"", " ", "\n", " \n \n", "block A=1;", "block A=1;block B=A;"}) {
            DraftHouse x = new DraftHouse(3, 3);
            due("text() of \"" + text + "\"", Tapes.tell(x, text), 1);
            due("TIME", x.about(2), 1);
            due("THE LOOK", x.about(3), 1);
            due("ENTRIES", x.about(4), 0);
            due("fault(0)", x.fault(0), 0);
            due("fault(1)", x.fault(1), -1);
            due("shaft(0)", x.shaft(0), -1);
        }
        for (String text : new String[] {";", ";;", "thread;", "tread;", "tie;", "block;", "thread 1;;", "to", "mirror(1);", "1;", "A;",
            "(1);", "=", ",", "*", ")"}) {
            int place = text.startsWith("thread;") ? 6 : text.startsWith("tread;") || text.startsWith("block;") ? 5
                : text.startsWith("tie;") ? 3 : text.equals("thread 1;;") ? 9 : 0;
            dueFault(text, 1, place);
        }
        for (String word : new String[] {"Thread", "THREAD", "threads", "threa", "treads", "trea", "Tread", "ties", "ti", "Tie", "blocks",
            "bloc", "Block"}) {
            dueFault(word + " 1 1;", 1, 0);
        }
    }

    private static void letters() {
        Sentences.says("LETTER: one TOKEN of A .. H");
        for (int sign = 65; sign <= 122; sign++) {
            if (!isLetter(sign)) {
                continue;
            }
            String c = String.valueOf((char) sign);
            boolean good = sign <= 72;
            dueFault("block " + c + "=5;thread " + c + ";", good ? 0 : 1, good ? -1 : 6);
            dueFault("thread " + c + ";", good ? 4 : 1, 7);
            dueFault("block " + c + c + "=5;", 1, 6);
            dueFault("thread " + c + "A;", 1, 7);
        }
        dueFault("block 1=5;", 1, 6);
        dueFault("block to=5;", 1, 6);
        dueFault("block =5;", 1, 6);
        Sentences.says("or a LETTER (its block)");
        DraftHouse y = new DraftHouse(9, 1);
        due("blocks of several numbers", Tapes.tell(y, "block H=1 to 3;block A=H*2,9;block B=back(A);thread B,H;"), 1);
        int[] numbers = {9, 3, 2, 1, 3, 2, 1, 1, 2};
        for (int end = 0; end < 9; end++) {
            due("shaft(" + end + ") by blocks", y.shaft(end), numbers[end]);
        }
        // all eight at once
        StringBuilder text = new StringBuilder();
        for (int i = 0; i < 8; i++) {
            text.append("block ").append((char) (65 + i)).append('=').append(15 - i).append(';');
        }
        DraftHouse x = new DraftHouse(9, 1);
        due("eight blocks", Tapes.tell(x, text + "thread A,B,C,D,E,F,G,H,0;"), 1);
        for (int i = 0; i < 8; i++) {
            due("block " + i, x.shaft(i), 15 - i);
        }
        due("behind them", x.shaft(8), 0);
    }

    /** A NUMBER between what is ahead of it and behind it is good from least to most alone. */
    private static void dueNumbers(String ahead, String behind, int least, int most) {
        for (int n = 0; n <= 70; n++) {
            boolean good = n >= least && n <= most;
            dueFault(ahead + n + behind, good ? 0 : 2, good ? -1 : ahead.length());
            dueFault(ahead + "0" + n + behind, good ? 0 : 2, good ? -1 : ahead.length());
            dueFault(ahead + "00000000000000000000" + n + behind, good ? 0 : 2, good ? -1 : ahead.length());
        }
        for (String n : TOO_LONG) {
            dueFault(ahead + n + behind, 2, ahead.length());
        }
        dueFault(ahead + "-1" + behind, 1, ahead.length());
        dueFault(ahead + "+1" + behind, 1, ahead.length());
        dueFault(ahead + "A" + behind, ahead.endsWith("* ") || ahead.endsWith("to ") || ahead.endsWith("plus ")
            || ahead.equals("tie ") ? 1 : 4, ahead.length());
    }

    private static void numbersOfRows() {
        Sentences.says("ONE: NUMBER (0 .. 15), or NUMBER to NUMBER");
        for (String clause : CLAUSES) {
            dueNumbers(clause, ";", 0, 15);
            dueNumbers(clause + "3,", ",4;", 0, 15);
            dueNumbers(clause, " to 5;", 0, 15);
            dueNumbers(clause + "5 to ", ";", 0, 15);
            dueNumbers(clause + "5 to ", "*2;", 0, 15);
        }
        for (String bracket : BRACKETS) {
            dueNumbers("thread " + bracket, ");", 0, 15);
            dueNumbers("thread " + bracket + "1 to ", ");", 0, 15);
        }
        for (int n = 0; n < 16; n++) {
            dueRow(String.valueOf(n), n);
        }
    }

    private static void numbersOfTreadles() {
        Sentences.says("a TREADLE 0 .. 15");
        dueNumbers("tie ", " 1;", 0, 15);
        for (int n = 0; n < 16; n++) {
            DraftHouse x = new DraftHouse(1, 2);
            Tapes.tell(x, "tie " + n + " 0,15;");
            x.tread(0, 1 << n);
            x.tread(1, 65535 ^ 1 << n);
            due("lift by TREADLE " + n, x.lift(0), 32769);
            due("lift by the others", x.lift(1), 0);
            due("ENTRIES", x.about(4), 3);
        }
    }

    private static void numbersOfTimes() {
        Sentences.says("so many times, 1 .. 48");
        for (String clause : CLAUSES) {
            dueNumbers(clause + "3* ", ";", 1, 48);
            dueNumbers(clause + "3 to 3 * ", ",5;", 1, 48);
            dueNumbers(clause + "(3)* ", ";", 1, 48);
        }
        dueNumbers("block C=3;thread C* ", ";", 1, 48);
        for (int n = 1; n < 48; n++) {
            int[] want = new int[48];
            java.util.Arrays.fill(want, 0, n, 4);
            java.util.Arrays.fill(want, n, 48, 9);
            dueRow("4*" + n + ",9*48", want);
        }
        dueRow("4*48", 4);
        dueFault("thread 4*2*2;", 1, 10);
        dueFault("thread 4**2;", 1, 9);
        dueFault("thread *2;", 1, 7);
        dueFault("thread 4*(2);", 1, 9);
    }

    private static void numbersOfSums() {
        Sentences.says("plus NUMBER ( ROW ) (0 .. 15");
        for (String clause : CLAUSES) {
            dueNumbers(clause + "plus ", "(3);", 0, 15);
            dueNumbers(clause + "1,(2,plus ", "(15))*2;", 0, 15);
        }
        dueFault("thread plus(3);", 1, 11);
        dueFault("thread plus 3 3;", 1, 14);
        dueFault("thread plus 3;", 1, 13);
        dueFault("thread plus 1 to 3(4);", 1, 14);
    }

    private static void ranges() {
        Sentences.says("from the one to the other, up or down, both too");
        for (int a = 0; a < 16; a++) {
            for (int b = 0; b < 16; b++) {
                int[] want = new int[Math.abs(a - b) + 1];
                for (int i = 0; i < want.length; i++) {
                    want[i] = a < b ? a + i : a - i;
                }
                dueRow(a + " to " + b, want);
            }
        }
        dueFault("thread 1 to 2 to 3;", 1, 14);
        dueFault("thread to 2;", 1, 7);
        dueFault("thread 1 to;", 1, 11);
        dueFault("thread (1) to 2;", 1, 11);
        dueFault("block A=1;thread A to 2;", 1, 19);
        dueFault("block A=1;thread 2 to A;", 1, 22);
        dueFault("thread 1 to (2);", 1, 12);
    }

    private static void sums() {
        Sentences.says("each so much more, remainder by 16");
        for (int by = 0; by < 16; by++) {
            int[] want = new int[16];
            for (int i = 0; i < 16; i++) {
                want[i] = (i + by) % 16;
            }
            dueRow("plus " + by + "(0 to 15)", want);
        }
        dueRow("plus 15(plus 15(plus 15(15,0)))", 12, 13);
        dueRow("plus 8(plus 8(7,8))", 7, 8);
        dueRow("14,plus 1(15)*2,14", 14, 0, 0, 14);
    }

    private static void mirrors() {
        Sentences.says("the ROW, then back without its last and its first one");
        dueRow("mirror(5)", 5);
        dueRow("mirror(5,6)", 5, 6);
        dueRow("mirror(5,6,7)", 5, 6, 7, 6);
        dueRow("mirror(5,6,7,8)", 5, 6, 7, 8, 7, 6);
        dueRow("mirror(5*2)", 5, 5);
        dueRow("mirror(5*3)", 5, 5, 5, 5);
        dueRow("9,mirror(5),8", 9, 5, 8);
        dueRow("9,mirror(5,6),8", 9, 5, 6, 8);
        dueRow("9,mirror(5,6,7),8", 9, 5, 6, 7, 6, 8);
        dueRow("mirror(mirror(1,2,3))", 1, 2, 3, 2, 3, 2);
        dueRow("mirror(5)*2,mirror(5,6)*2,mirror(5,6,7)*2", 5, 5, 5, 6, 5, 6, 5, 6, 7, 6, 5, 6, 7, 6);
        dueFault("thread mirror();", 1, 14);
        dueFault("thread mirror;", 1, 13);
        dueFault("thread mirror 1;", 1, 14);
    }

    private static void backs() {
        Sentences.says("or back ( ROW )");
        dueRow("back(5)", 5);
        dueRow("back(5,6)", 6, 5);
        dueRow("back(5,6,7)", 7, 6, 5);
        dueRow("back(5,6,7,8)", 8, 7, 6, 5);
        dueRow("9,back(5),8", 9, 5, 8);
        dueRow("9,4,back(5,6),8", 9, 4, 6, 5, 8);
        dueRow("back(back(5,6,7))", 5, 6, 7);
        dueRow("back(1,back(2,3),4)", 4, 2, 3, 1);
        dueFault("thread back();", 1, 12);
        dueFault("thread back 1;", 1, 12);
    }

    private static void bareBrackets() {
        Sentences.says("or ( ROW )");
        dueRow("(5)", 5);
        dueRow("(15,0)", 15, 0);
        dueRow("9,(5,6),8", 9, 5, 6, 8);
        dueRow("((((((((5,6))))))))", 5, 6);
        dueRow("((1,2)*2,3)*2,4", 1, 2, 1, 2, 3, 1, 2, 1, 2, 3, 4);
        dueRow("(1),((2),3),(4 to 6)*1", 1, 2, 3, 4, 5, 6);
        // beside and within other brackets it is bare too
        dueRow("back(1,2),(3,4)", 2, 1, 3, 4);
        dueRow("plus 3(1,2),(3,4)", 4, 5, 3, 4);
        dueRow("mirror(1,2,3),(4,5,6)", 1, 2, 3, 2, 4, 5, 6);
        dueRow("back((1,2),3)", 3, 2, 1);
        dueRow("plus 3((1,2),3)", 4, 5, 6);
        dueRow("mirror((1,2,3),4)", 1, 2, 3, 4, 3, 2);
        dueFault("thread ();", 1, 8);
        dueFault("thread (1;", 1, 9);
        dueFault("thread 1);", 1, 8);
        dueFault("thread (1));", 1, 10);
        dueFault("thread (1,);", 1, 10);
        dueFault("thread (1)2;", 1, 10);
        dueFault("thread (1)(2);", 1, 10);
    }

    private static void brackets() {
        Sentences.says("3 the 9th ( that is open around one another (at it)");
        for (int kind = 0; kind < BRACKETS.length; kind++) {
            String open = BRACKETS[kind];
            for (int deep = 7; deep <= 9; deep++) {
                String text = "thread " + open.repeat(deep) + "1" + ")".repeat(deep) + ";";
                dueFault(text, deep < 9 ? 0 : 3, deep < 9 ? -1 : 7 + 9 * open.length() - 1);
            }
            // the ninth of each kind, within eight bare ones, and what comes behind it isn't come to
            String eight = "thread ((((((((";
            dueFault(eight + open, 3, 15 + open.length() - 1);
            dueFault(eight + open + "16,,", 3, 15 + open.length() - 1);
            dueFault(eight + "1,2*2," + open + "1)", 3, 21 + open.length() - 1);
            // closed ones don't count
            dueTaken("thread " + (open + "1),").repeat(9) + "2;");
            dueTaken("thread (((((((" + open + "1)," + open + "1))))))));");
            dueFault("thread (((((((" + open + "1)," + open + "1,((", 3, 14 + 2 * open.length() + 3 + 2);
            // nor those of another CLAUSE
            dueTaken("thread ((((((((1))))))));tread " + open + "1);");
        }
        dueFault("thread ((((((((1(", 1, 16);
        dueFault("thread ((((((((mirror 1", 1, 22);
        dueFault("thread ((((((((plus(", 1, 19);
        dueFault("thread ((((((((plus 16(", 2, 20);
        dueFault("thread ((((((((1)))))))));", 1, 24);
        dueFault("thread ((((((((1)))))));", 1, 23);
    }

    private static void blocks() {
        Sentences.says("4 at a LETTER: of a block, that was told; elsewhere, that wasn't told by a block ahead");
        for (char c = 'A'; c <= 'H'; c++) {
            dueFault("block " + c + "=1;block " + c + "=1;", 4, 16);
            dueFault("block " + c + "=1;tie 0 2;block " + c, 4, 24);
            dueFault("thread " + c + ";block " + c + "=1;", 4, 7);
            dueFault("block " + c + "=" + c + ";", 4, 8);
            dueFault("block " + c + "=1,mirror(2," + c + ");", 4, 19);
            char other = c == 'H' ? 'A' : (char) (c + 1);
            dueFault("block " + c + "=1;thread " + c + "," + other + ";", 4, 19);
            dueFault("block " + c + "=1;block " + other + "=" + other + ";", 4, 18);
            dueTaken("block " + c + "=1;block " + other + "=" + c + "," + c + ";tie 0 " + other + ";");
            dueTaken("block " + c + "=1;thread " + c + ";tread " + c + ";tie 0 " + c + ";thread (" + c + ")*2;");
        }
        // those of another text don't count
        DraftHouse x = new DraftHouse(1, 1);
        due("a text with a block", Tapes.tell(x, "block A=1;"), 1);
        due("another text with it", Tapes.tell(x, "block A=2;thread A;"), 2);
        due("shaft(0)", x.shaft(0), 2);
        due("a text without it", Tapes.tell(x, "thread A;"), -1);
        due("fault(0)", x.fault(0), 4);
        due("a faulty text with it", Tapes.tell(x, "block A=3;thread"), -1);
        due("a text without it", Tapes.tell(x, "thread A;"), -1);
        due("fault(0)", x.fault(0), 4);
        due("shaft(0)", x.shaft(0), 2);
    }

    private static void rowsAlongEnds() {
        Sentences.says("the SHAFTS of ENDS 0, 1, .. (of those that are there), over and over, up to the last END");
        for (int wide : new int[] {1, 2, 3, 5, 47, 48}) {
            for (int size : new int[] {1, 2, wide - 1, wide, wide + 1, 199, 200}) {
                if (size < 1) {
                    continue;
                }
                // the first number is 3, the last one 5, those between are 7
                DraftHouse x = new DraftHouse(wide, 2);
                String text = size == 1 ? "3" : size == 2 ? "3,5" : "3," + row(size - 2) + ",5";
                due("thread " + text, Tapes.tell(x, "thread " + text + ";"), 1);
                due("ENTRIES are those of ENDS that are there", x.about(4), wide);
                for (int end = 0; end < wide; end++) {
                    int at = end % size;
                    due("shaft " + end + " of " + size, x.shaft(end), at == 0 ? 3 : at == size - 1 ? 5 : 7);
                }
                due("shaft beyond", x.shaft(wide), -1);
                due("lift", x.lift(0), 0);
            }
        }
    }

    private static void rowsAlongPicks() {
        Sentences.says("tread: each a TREAD of that one TREADLE, of PICKS 0, 1, .. likewise");
        for (int high : new int[] {1, 2, 3, 5, 47, 48}) {
            for (int size : new int[] {1, 2, high - 1, high, high + 1, 199, 200}) {
                if (size < 1) {
                    continue;
                }
                DraftHouse x = new DraftHouse(2, high);
                String text = size == 1 ? "3" : size == 2 ? "3,15" : "3," + row(size - 2) + ",15";
                for (int treadle = 0; treadle < 16; treadle++) {
                    x.tie(treadle, 1 << 15 - treadle);
                }
                due("tread " + text, Tapes.tell(x, "tread " + text + ";"), 17);
                due("ENTRIES are those of PICKS that are there", x.about(4), 16 + high);
                for (int pick = 0; pick < high; pick++) {
                    int at = pick % size;
                    due("lift " + pick + " of " + size, x.lift(pick), 1 << 15 - (at == 0 ? 3 : at == size - 1 ? 15 : 7));
                }
                due("lift beyond", x.lift(high), -1);
                due("shaft", x.shaft(0), -1);
            }
        }
    }

    private static void setsOfTies() {
        Sentences.says("tie: the set of its numbers");
        String[] rows = {"0", "15", "0 to 15", "15 to 0", "3,3,3", "3*48", "mirror(4,5,6)", "plus 15(0,1)", "back(0,15)", row(200)};
        int[] sets = {1, 32768, 65535, 65535, 8, 8, 112, 32769, 32769, 128};
        for (int i = 0; i < rows.length; i++) {
            DraftHouse x = new DraftHouse(1, 1);
            x.tie(0, 65535);
            x.tread(0, 1);
            due("tie 0 " + rows[i], Tapes.tell(x, "tie 0 " + rows[i] + ";"), 3);
            due("lift(0) of " + rows[i], x.lift(0), sets[i]);
            due("ENTRIES", x.about(4), 3);
        }
        dueFault("tie 0;", 1, 5);
        dueFault("tie 0 ();", 1, 7);
    }

    private static void endOfText() {
        Sentences.says("at the TOKEN's first byte (of the end at the length)");
        String[] tokens = {"block ", "A ", "= ", "1 ", "to ", "3 ", "* ", "2 ", ", ", "mirror ", "( ", "4 ", ", ", "5 ", ") ", "* ", "2 ",
            "; ", "thread ", "A ", ", ", "plus ", "3 ", "( ", "back ", "( ", "6 ", ") ", ") ", "; ", "tie ", "15 ", "7 ", "; ", "tread ",
            "8 ", "; "};
        StringBuilder text = new StringBuilder();
        dueTaken("");
        for (String token : tokens) {
            text.append(token);
            if (token.equals("; ")) {
                dueTaken(text.toString());
            } else {
                dueFault(text.toString(), 1, text.length());
                dueFault(text.toString().trim(), 1, text.length() - 1);
                dueFault(text + "\n\n ", 1, text.length() + 3);
            }
        }
        // a TOKEN that can't stand there is told at its first byte, however long it is
        for (String token : tokens) {
            dueFault("thread 1   " + (token.trim().matches("[,*;]|to") ? "=" : token) + ";", 1, 11);
        }
        dueFault("  threads 1;", 1, 2);
        dueFault("tie 1 2;\n\n 100 ;", 1, 11);
        dueFault("tie 1 2,  \n 100 ;", 2, 12);
    }

    private static void firstOfFaults() {
        Sentences.says("FAULTS, the first as TOKENS are come to");
        String[] faulty = {"tie 1 =;", "tie 16 1;", "tie 1 (((((((((1", "tie 1 H;", "tie 1 " + row(201) + ";"};
        int[] places = {6, 4, 14, 6, 6 + row(201).length() - 1};
        for (int i = 0; i < 5; i++) {
            dueFault(faulty[i], i + 1, places[i]);
            for (int j = 0; j < 5; j++) {
                dueFault(faulty[i] + faulty[j], i + 1, places[i]);
                dueFault("tread 1;" + faulty[i] + faulty[j], i + 1, 8 + places[i]);
            }
        }
    }

    private static void leastOfFaults() {
        Sentences.says("of one the least");
        String full = "thread " + row(200) + ",";
        int at = full.length();
        // 1 ahead of 2: a NUMBER that can't stand there
        dueFault("thread 1 16;", 1, 9);
        dueFault("16;", 1, 0);
        dueFault("thread 1*2 16;", 1, 11);
        // 1 ahead of 3: a 9th ( that can't stand there
        dueFault("thread ((((((((1(", 1, 16);
        dueFault("thread ((((((((1*2(", 1, 18);
        // 1 ahead of 4: a LETTER that can't stand there
        dueFault("thread 1 A;", 1, 9);
        dueFault("A", 1, 0);
        dueFault("thread 1*A;", 1, 9);
        // 2 ahead of 5: a NUMBER by which there would be too many
        dueFault(full + "16;", 2, at);
        dueFault(full + "1 to 16;", 2, at + 5);
        dueFault("thread (" + row(200) + ")*49;", 2, at + 3 - 1);
        // 4 ahead of 5
        dueFault(full + "A;", 4, at);
        dueFault(full + "(A);", 4, at + 1);
        // 5 is told at the NUMBER, ahead of what comes behind it
        for (String behind : new String[] {";", "", " 16", "*2;", "*49;", "*", "(", ")", "A", "#", ",16", "="}) {
            dueFault(full + "1" + behind, 5, at);
        }
        // but a NUMBER with a to behind it doesn't end its ONE
        dueFault(full + "1 to;", 1, at + 4);
        dueFault(full + "1 to A;", 1, at + 5);
        dueFault(full + "1 to 1;", 5, at + 5);
        dueFault(full + "16 to 1;", 2, at);
    }

    private static void manyNumbers() {
        Sentences.says("5 .. by which a ROW (that of a ( ), too) has more than 200 numbers");
        for (String clause : CLAUSES) {
            for (int size = 198; size <= 203; size++) {
                String text = clause + row(size);
                dueFault(text + ";", size > 200 ? 5 : 0, size > 200 ? text.length() - (size - 192 > 9 ? 2 : 1) : -1);
            }
            dueFault(clause + row(240) + ";", 5, clause.length() + row(240).length() - 2);
            String full = clause + row(200);
            dueFault(full + ",1;", 5, full.length() + 1);
        }
        // as single NUMBERS: they have no room in 300 bytes, so that a block does the rest
        String hundred = "block A=1" + ",2".repeat(99) + ";thread A,";
        dueTaken(hundred + "A;");
        dueFault(hundred + "1,A;", 5, hundred.length() + 2);
        dueFault(hundred + "A,1;", 5, hundred.length() + 2);
        String most = "block A=1*48,2*6;thread A,A,A,3" + ",4".repeat(37);
        dueTaken(most + ";");
        dueFault(most + ",4;", 5, most.length() + 1);
    }

    private static void manyByOneToken() {
        Sentences.says("the last TOKEN of the ITEM's *, NUMBER; of a NUMBER, LETTER; the )");
        String blocks = "block A=1;block B=1,2;";
        for (int size = 196; size <= 200; size++) {
            String text = blocks + "thread " + row(size) + ",";
            int at = text.length();
            dueMany(text + "9;", size + 1, at);
            dueMany(text + "9 to 9;", size + 1, at + 5);
            dueMany(text + "9 to 10;", size + 2, at + 5);
            dueMany(text + "9 to 6;", size + 4, at + 5);
            dueMany(text + "A;", size + 1, at);
            dueMany(text + "B;", size + 2, at);
            for (String open : BRACKETS) {
                int inside = at + open.length();
                dueMany(text + open + "9);", size + 1, inside + 1);
                dueMany(text + open + "9,8);", size + 2, inside + 3);
                dueMany(text + open + "B);", size + 2, inside + 1);
                dueMany(text + open + "(8,9));", size + 2, inside + 5);
            }
            dueMany(text + "mirror(7,8,9);", size + 4, at + 12);
            dueMany(text + "back(7,8,9);", size + 3, at + 10);
            if (size < 200) {
                dueMany(text + "9*1;", size + 1, at + 2);
                dueMany(text + "9*2;", size + 2, at + 2);
                dueMany(text + "9*3;", size + 3, at + 2);
                dueMany(text + "9 * 48;", size + 48, at + 4);
                dueMany(text + "A*2;", size + 2, at + 2);
                dueMany(text + "(9)*2;", size + 2, at + 4);
            }
            if (size < 199) {
                dueMany(text + "B*2;", size + 4, at + 2);
                dueMany(text + "8 to 9*2;", size + 4, at + 7);
                dueMany(text + "mirror(8,9)*2;", size + 4, at + 12);
            }
            // the ONE ends ahead of the ITEM's *
            if (size == 200) {
                dueMany(text + "9*1;", 201, at);
                dueMany(text + "9*48;", 201, at);
                dueMany(text + "A*2;", 201, at);
                dueMany(text + "(9)*2;", 201, at + 2);
                dueMany(text + "9 to 9*2;", 201, at + 5);
            }
        }
    }

    private static void dueMany(String text, int size, int place) {
        dueFault(text, size > 200 ? 5 : 0, size > 200 ? place : -1);
    }

    private static void manyInBrackets() {
        Sentences.says("a ROW (that of a ( ), too)");
        for (int deep = 1; deep <= 8; deep++) {
            for (String open : BRACKETS) {
                if (open.startsWith("mirror")) {
                    continue;
                }
                String ahead = "thread " + open.repeat(deep);
                dueTaken(ahead + row(200) + ")".repeat(deep) + ";");
                // at the last NUMBER, not at a ) behind it
                dueFault(ahead + row(201) + ")".repeat(deep) + ";", 5, ahead.length() + row(201).length() - 1);
                dueFault(ahead + row(200) + ",1", 5, ahead.length() + row(200).length() + 1);
                // the ROW around is too long by the ), of the innermost bracket that has one ahead of it
                String within = "thread " + open.repeat(deep - 1) + "1," + open + row(200);
                dueFault(within + ")".repeat(deep) + ";", 5, within.length());
                dueFault(within, 1, within.length());
                dueFault(within + ";", 1, within.length());
                String less = "thread " + open.repeat(deep - 1) + "1," + open + row(199);
                dueTaken(less + ")".repeat(deep) + ";");
            }
        }
        // each ROW of eight has 200 numbers, none more
        String nested = "(7*24,".repeat(7) + "(7*32";
        dueTaken("thread " + nested + ")".repeat(8) + ";");
        String more = "(7*24,".repeat(7) + "(7*33";
        dueFault("thread " + more + ")".repeat(8) + ";", 5, 7 + more.length() + 6);
        // nine ROWS are open, and all but the last one have 200 numbers already
        String full = "thread " + (row(200) + ",(").repeat(8);
        dueFault(full + "1))", 5, full.length() + 1);
        dueFault(full + row(200) + ")", 5, full.length() + row(200).length());
        dueFault(full + row(201) + ")", 5, full.length() + row(201).length() - 1);
        dueFault(full + "1", 1, full.length() + 1);
        // ROWS side by side in one that isn't too long itself
        dueTaken("thread (" + row(100) + "),(" + row(100) + ");");
        dueFault("thread (" + row(100) + "),(" + row(101) + ");", 5, 7 + 1 + row(100).length() + 3 + row(101).length());
    }

    private static void manyByMirrors() {
        Sentences.says("the ); the ROW, then back without its last and its first one");
        for (int size = 98; size <= 104; size++) {
            String text = "thread mirror(" + row(size);
            dueMany(text + ");", 2 * size - 2, text.length());
            dueMany("thread 1,mirror(" + row(size) + ");", 2 * size - 1, text.length() + 2);
            dueMany("thread (mirror(" + row(size) + "));", 2 * size - 2, text.length() + 1);
        }
        String text = "thread mirror(" + row(200);
        dueFault(text + ");", 5, text.length());
        dueFault("thread mirror(" + row(201) + ");", 5, 14 + row(201).length() - 1);
        // a mirror of one or two has no more of them than its ROW
        dueTaken("thread " + row(199) + ",mirror(1);");
        dueTaken("thread " + row(198) + ",mirror(1,2);");
        dueFault("thread " + row(199) + ",mirror(1,2);", 5, 7 + row(199).length() + 1 + 10);
        dueFault("thread " + row(197) + ",mirror(1,2,3);", 5, 7 + row(197).length() + 1 + 12);
        dueTaken("thread " + row(196) + ",mirror(1,2,3);");
        // 4, 6, 10, 18, 34, 66, 130, 258 by mirrors of mirrors
        dueTaken("thread " + "mirror(".repeat(6) + "1 to 4" + ")".repeat(6) + ";");
        dueFault("thread " + "mirror(".repeat(7) + "1 to 4" + ")".repeat(7) + ";", 5, 7 + 49 + 6 + 6);
    }

    private static void manyByTimes() {
        Sentences.says("perhaps * NUMBER behind it (so many times, 1 .. 48)");
        for (int n = 1; n <= 48; n++) {
            int size = 200 / n;
            String good = "thread (" + row(size) + ")*";
            dueTaken(good + n + ";");
            if (size < 200) {
                String more = "thread (" + row(size + 1) + ")*";
                dueMany(more + n + ";", (size + 1) * n, more.length());
            }
            String full = "thread (" + row(200) + ")*";
            dueMany(full + n + ";", 200 * n, full.length());
        }
        dueFault("thread ((1*48)*4)*48;", 5, 18);
        dueFault("thread (((((((1*48)*48)*48)*48)*48)*48)*48)*48;", 5, 20);
    }

    private static void oneTelling() {
        Sentences.says("A text that is taken is one telling: ENTRIES of its CLAUSES in their order");
        DraftHouse x = new DraftHouse(3, 2);
        due("text()", Tapes.tell(x, "tie 0 1;thread 1;tie 0 2;thread 2,3;tread 1,0;tie 1 4;tread 0,1;"), 1);
        due("ENTRIES", x.about(4), 1 + 3 + 1 + 3 + 2 + 1 + 2);
        due("the later tie", x.lift(0), 4);
        due("the later tread", x.lift(1), 16);
        due("the later thread", x.shaft(1), 3);
        due("the later thread", x.shaft(2), 2);
        due("TIME", x.about(2), 1);
        due("TIME of an END", x.lead(0, 0, 2), 1);
        due("TIME of a PICK", x.lead(0, 1, 3), 1);
        due("look(0)", x.look(0) ? 1 : 0, 1);
        due("nothing ahead of it", x.shaft(0), -1);
        due("nothing ahead of it", x.lift(0), 0);
        due("look(1)", x.look(1) ? 1 : 0, 1);
        due("all at it", x.shaft(0), 2);
    }

    private static void faultsOfTexts() {
        Sentences.says("0 its FAULT (0 without), 1 its place (NONE without). NONE for others, and ahead of any");
        DraftHouse x = new DraftHouse(1, 1);
        for (int what = -1; what < 4; what++) {
            due("fault(" + what + ") ahead of any", x.fault(what), -1);
        }
        x.thread(0, 1);
        Tapes.put(x, "tie");
        x.end(0);
        due("fault(0) ahead of any", x.fault(0), -1);
        due("fault(1) ahead of any", x.fault(1), -1);
        x.text();
        due("fault(0) without", x.fault(0), 0);
        due("fault(1) without", x.fault(1), -1);
        Tapes.tell(x, "tie 0 1;tie 0 H;");
        due("fault(0)", x.fault(0), 4);
        due("fault(1)", x.fault(1), 14);
        for (int what : new int[] {Integer.MIN_VALUE, -2, -1, 2, 3, Integer.MAX_VALUE}) {
            due("fault(" + what + ")", x.fault(what), -1);
        }
        x.tie(0, 1);
        x.look(0);
        Tapes.put(x, "tie 0 1;");
        due("fault(0) is of the latest text()", x.fault(0), 4);
        due("fault(1) is of the latest text()", x.fault(1), 14);
        x.text();
        due("fault(0) without", x.fault(0), 0);
        due("fault(1) without", x.fault(1), -1);
    }

    /** A cloth that was told by hand and by texts, at an earlier LOOK. */
    private static DraftHouse told() {
        DraftHouse x = new DraftHouse(4, 3);
        Tapes.tell(x, "block A=0 to 2;thread A;tread A;tie 0 0,1;tie 1 2;");
        x.thread(2, 3);
        x.colour(true, 1, 4);
        x.tie(2, 9);
        x.seen(1, 5);
        x.look(2);
        return x;
    }

    private static void faultyTexts() {
        Sentences.says("NONE: it has a FAULT .. : nothing is told");
        String good = "thread 9;tie 0 8;tread 5;";
        int at = good.length();
        Sentences.refusedText(good + "x", TextBounds::told, 1, at);
        Sentences.refusedText(good + "tie 0 1", TextBounds::told, 1, at + 7);
        Sentences.refusedText(good + "tie 16 1;", TextBounds::told, 2, at + 4);
        Sentences.refusedText(good + "tie 1 (((((((((1", TextBounds::told, 3, at + 14);
        Sentences.refusedText(good + "tie 1 A;", TextBounds::told, 4, at + 6);
        Sentences.refusedText(good + "block A=1;block A=1;", TextBounds::told, 4, at + 16);
        Sentences.refusedText(good + "tie 1 " + row(201) + ";", TextBounds::told, 5, at + 6 + row(201).length() - 1);
        // nor by what is told behind it
        for (String fault : new String[] {"x", "tie 16 1;", "tie 1 H;", "tie 1 " + row(201) + ";", "tie 1 ((1,(2",
            "tie 1 (((((((((", "tread 0;".repeat(20) + "("}) {
            DraftHouse x = told();
            int entries = x.about(4);
            due("a faulty text", Tapes.tell(x, good + fault), -1);
            due("a telling by hand", x.tie(3, 1), 5);
            due("ENTRIES", x.about(4), entries + 1);
            due("shaft(0)", x.shaft(0), 0);
            due("lift(0)", x.lift(0), 3);
            due("a faulty text", Tapes.tell(x, good + fault), -1);
            due("a text", Tapes.tell(x, "tie 3 ((((((((2))))))));"), 6);
            due("ENTRIES", x.about(4), entries + 2);
            due("shaft(0)", x.shaft(0), 0);
            due("lift(0)", x.lift(0), 3);
        }
        Sentences.refusedText("\u0000", TextBounds::told, 1, 0);
        Sentences.refusedText("\u00ff", TextBounds::told, 1, 0);
    }
}
