import java.util.ArrayList;
import java.util.Arrays;
import java.util.Collections;
import java.util.List;
import java.util.Random;
import java.util.TreeSet;

/** Runs of seeded random calls, each answer held against a slow model that is written straight from the document. */
public final class ModelRuns {
    private static final int RUNS = 500;
    private static final int COVERS = 1500;
    private static final int CROWDED_COVERS = 200;
    private static int wrong = 0;
    /** How often each kind of answer came, so that a run that tests nothing is noticed. */
    private static final java.util.TreeMap<String, Integer> MET = new java.util.TreeMap<>();

    public static void main(String[] args) {
        for (int seed = 0; seed < RUNS && wrong < 20; seed++) {
            new Run(seed).go();
        }
        for (int seed = 0; seed < COVERS && wrong < 20; seed++) {
            new Run(seed, 16, 5).goForCover();
        }
        for (int seed = 0; seed < CROWDED_COVERS && wrong < 20; seed++) {
            new Run(seed, 16, 5).goForCrowdedCover();
        }
        for (String due : new String[] {"fault 0", "fault 1", "fault 2", "fault 3", "fault 4", "fault 5", "text none, fault 0",
            "cover none", "cover 0", "cover 1", "cover 2", "cover 3", "cover 4", "cover 5", "mended -2", "mended 0", "mended by tie",
            "shifted", "not shifted", "full"}) {
            if (!MET.containsKey(due)) {
                wrong++;
                System.out.println("no run met: " + due);
            }
        }
        System.out.println(MET);
        System.out.println(wrong == 0 ? "all answers are as in the model" : wrong + " answers are not as in the model");
        if (wrong != 0) {
            System.exit(1);
        }
    }

    private static void met(String what) {
        MET.merge(what, 1, Integer::sum);
    }

    private static final class Run {
        final int seed;
        final Random random;
        final int wide;
        final int high;
        final DraftHouse house;
        final Model model;
        final List<String> calls = new ArrayList<>();
        final int maxShaft;
        /** Such a run asks and tells mostly at the bounds. */
        final boolean edgy;

        Run(int seed) {
            this(seed, 1 + seed * 7 % (seed % 5 == 4 ? 48 : seed % 5 == 3 ? 14 : 6), 1 + seed * 11 % (seed % 5 > 2 ? 48 : 7));
        }

        Run(int seed, int wide, int high) {
            this.seed = seed;
            this.wide = wide;
            this.high = high;
            random = new Random(seed);
            house = new DraftHouse(wide, high);
            model = new Model(wide, high);
            maxShaft = 1 + random.nextInt(16);
            edgy = seed % 7 == 3;
        }

        void same(String call, long got, long want) {
            calls.add(call);
            if (got != want && wrong < 20) {
                wrong++;
                System.out.println("seed " + seed + " (" + wide + ", " + high + ") call " + calls.size() + ": " + call
                    + " answered " + got + ", the model " + want);
            }
        }

        void go() {
            // a run mostly asks, or mostly reads texts, or tells by hand until TIMES are full
            int kind = random.nextInt(8);
            boolean textual = kind < 3;
            int byHand = kind == 7 ? 98 : 25;
            if (!textual) {
                tellSensibly();
            }
            for (int i = 0; i < 500 && calls.size() < 470 && wrong < 20; i++) {
                int dice = random.nextInt(100);
                if (dice < byHand) {
                    tellByHand();
                } else if (dice < (textual ? 65 : 30)) {
                    tellText(textual);
                } else if (dice < (textual ? 67 : 52)) {
                    seeSome();
                } else {
                    ask();
                }
            }
            ask();
            for (int i = 0; i < 8; i++) {
                same("about(" + i + ")", house.about(i), model.about(i));
            }
        }

        /** A draft by which every PICK lifts something. */
        void tellSensibly() {
            int treadles = 4 + random.nextInt(2);
            for (int t = 0; t < treadles; t++) {
                int set = 1 + random.nextInt((1 << maxShaft) - 1);
                note(house.tie(t, set), model.tie(t, set), "tie(" + t + ", " + set + ")");
            }
            for (int e = 0; e < wide; e++) {
                int s = random.nextInt(maxShaft);
                note(house.thread(e, s), model.thread(e, s), "thread(" + e + ", " + s + ")");
            }
            for (int p = 0; p < high; p++) {
                int set = 1 << random.nextInt(treadles);
                note(house.tread(p, set), model.tread(p, set), "tread(" + p + ", " + set + ")");
            }
        }

        /** LIFTS that are put together of a few sets, on all SHAFTS that there is room for. */
        void goForCover() {
            int[] sets = new int[1 + random.nextInt(6)];
            for (int i = 0; i < sets.length; i++) {
                sets[i] = random.nextInt(65536) & (random.nextBoolean() ? 65535 : random.nextInt(65536));
            }
            for (int e = 0; e < wide; e++) {
                note(house.thread(e, e % 16), model.thread(e, e % 16), "thread(" + e + ", " + e % 16 + ")");
            }
            int lifts = 1 + random.nextInt(5);
            for (int t = 0; t < lifts; t++) {
                int set = seed % 3 == 0 ? random.nextInt(65536) : 0;
                for (int s : sets) {
                    set |= seed % 3 != 0 && random.nextBoolean() ? s : 0;
                }
                note(house.tie(t, set), model.tie(t, set), "tie(" + t + ", " + set + ")");
            }
            for (int p = 0; p < high; p++) {
                note(house.tread(p, 1 << p % lifts), model.tread(p, 1 << p % lifts), "tread(" + p + ", " + (1 << p % lifts) + ")");
            }
            askCover();
        }

        /** Five LIFTS, and each SHAFT in at least so many of them: there are the most TIES to choose from. */
        void goForCrowdedCover() {
            int[] lifts = new int[5];
            int least = 1 + seed % 3;
            for (int s = 0; s < 16; s++) {
                int among = random.nextInt(32);
                for (int tries = 0; tries < 1000 && Integer.bitCount(among) < least; tries++) {
                    among = random.nextInt(32);
                }
                for (int t = 0; t < lifts.length; t++) {
                    lifts[t] |= (among >> t & 1) << s;
                }
                note(house.thread(s, s), model.thread(s, s), "thread(" + s + ", " + s + ")");
            }
            for (int t = 0; t < lifts.length; t++) {
                note(house.tie(t, lifts[t]), model.tie(t, lifts[t]), "tie(" + t + ", " + lifts[t] + ")");
                note(house.tread(t, 1 << t), model.tread(t, 1 << t), "tread(" + t + ", " + (1 << t) + ")");
            }
            askCover();
        }

        /** Mostly 0 to n - 1, at times a little or far outside. */
        int near(int n) {
            if (edgy && random.nextInt(3) == 0) {
                int[] edges = {-2, -1, 0, 1, n - 2, n - 1, n, n + 1, Integer.MIN_VALUE, Integer.MAX_VALUE};
                return edges[random.nextInt(edges.length)];
            }
            int dice = random.nextInt(60);
            if (dice == 0) {
                return -1;
            } else if (dice == 1) {
                return n;
            } else if (dice == 2) {
                return random.nextInt();
            }
            return random.nextInt(n);
        }

        int set() {
            int bits = (1 << maxShaft) - 1;
            return random.nextInt(3) == 0 ? random.nextInt(65536) & bits : 1 << random.nextInt(maxShaft) | 1 << random.nextInt(maxShaft);
        }

        void tellByHand() {
            int a;
            int b;
            switch (random.nextInt(5)) {
                case 0:
                    a = near(wide);
                    b = random.nextInt(12) == 0 ? -1 : random.nextInt(30) == 0 ? 16 : near(maxShaft);
                    note(house.thread(a, b), model.thread(a, b), "thread(" + a + ", " + b + ")");
                    break;
                case 1:
                    a = random.nextInt(4) == 0 ? near(16) : near(3);
                    b = random.nextInt(30) == 0 ? 65536 : random.nextInt(30) == 0 ? -1 : set();
                    note(house.tie(a, b), model.tie(a, b), "tie(" + a + ", " + b + ")");
                    break;
                case 2:
                case 3:
                    a = near(high);
                    b = random.nextInt(30) == 0 ? 65536 : random.nextInt(30) == 0 ? -1
                        : random.nextInt(3) == 0 ? random.nextInt(65536) : 1 << random.nextInt(4);
                    note(house.tread(a, b), model.tread(a, b), "tread(" + a + ", " + b + ")");
                    break;
                default:
                    boolean end = random.nextBoolean();
                    a = near(end ? wide : high);
                    b = random.nextInt(3) == 0 ? near(10) : random.nextInt(2);
                    note(house.colour(end, a, b), model.colour(end, a, b), "colour(" + end + ", " + a + ", " + b + ")");
                    break;
            }
        }

        void note(int got, int want, String call) {
            if (want == -1 && (model.time == 400 || model.entries.size() == 2000)) {
                met("full");
            }
            same(call, got, want);
        }

        void tellText(boolean wild) {
            String text = new Texts(random, maxShaft).make(wild);
            int length = Math.min(300, text.length());
            for (int from = 0; from < length; from += 20) {
                int[] w = new int[5];
                for (int i = 0; i < 20; i++) {
                    int sign = from + i < length ? text.charAt(from + i) : random.nextInt(256);
                    w[i / 4] |= sign << 24 - i % 4 * 8;
                }
                same("feed", house.feed(w[0], w[1], w[2], w[3], w[4]), model.feed(w));
            }
            if (random.nextInt(10) == 0) {
                int n = near(320);
                same("end(" + n + ")", house.end(n), model.end(n));
            } else {
                same("end(" + length + ")", house.end(length), model.end(length));
            }
            int want = model.text();
            met(want == -1 && model.fault == 0 ? "text none, fault 0" : "fault " + model.fault);
            same("text() of " + text.replace("\n", "\\n"), house.text(), want);
            same("fault(0)", house.fault(0), model.fault(0));
            same("fault(1)", house.fault(1), model.fault(1));
        }

        void seeSome() {
            int kind = random.nextInt(4);
            if (kind == 0) {
                int dx = random.nextInt(wide);
                int dy = random.nextInt(high);
                for (int p = 0; p < high && calls.size() < 480; p++) {
                    long row = 0;
                    for (int e = 0; e < wide; e++) {
                        if (model.up(e, p)) {
                            row |= 1L << (e + dx) % wide;
                        }
                    }
                    see((p + dy) % high, row);
                }
            } else if (kind == 1) {
                // a cloth that is one or two faults away from the one there is
                int[] ties = model.ties();
                int[] threading = model.threading();
                if (random.nextInt(4) != 0) {
                    ties[random.nextInt(4)] ^= 1 << random.nextInt(maxShaft);
                }
                for (int i = random.nextInt(3); i > 0; i--) {
                    threading[random.nextInt(wide)] = random.nextInt(maxShaft + 1) - 1;
                }
                for (int p = 0; p < high && calls.size() < 480; p++) {
                    long row = random.nextLong() << wide;
                    for (int e = 0; e < wide; e++) {
                        if (threading[e] >= 0 && (model.liftBy(ties, p) >> threading[e] & 1) != 0) {
                            row |= 1L << e;
                        } else {
                            row &= ~(1L << e);
                        }
                    }
                    see(p, row);
                }
            } else {
                see(near(high), random.nextInt(3) == 0 ? 0 : random.nextLong());
            }
            askSeen();
        }

        void see(int p, long row) {
            same("seen(" + p + ", " + row + ")", house.seen(p, row) ? 1 : 0, model.seen(p, row) ? 1 : 0);
        }

        void askSeen() {
            for (int what = -1; what < 4; what++) {
                same("mended(" + what + ")", house.mended(what), model.mended(what));
            }
            int cost = model.mended(0);
            met(cost == -2 ? "mended -2" : cost == 0 ? "mended 0" : model.mended(1) >= 0 ? "mended by tie" : "mended by threads");
            int e = near(wide);
            same("mendedShaft(" + e + ")", house.mendedShaft(e), model.mendedShaft(e));
            e = near(wide);
            same("mendedShaft(" + e + ")", house.mendedShaft(e), model.mendedShaft(e));
            e = near(wide);
            same("wrong(" + e + ")", house.wrong(e), model.wrongOf(e));
            for (int what = -1; what < 3; what++) {
                e = near(wide);
                same("nearest(" + e + ", " + what + ")", house.nearest(e, what), model.nearest(e, what));
            }
            met(model.shifted(true) == -1 ? "not shifted" : "shifted");
            same("shifted(true)", house.shifted(true), model.shifted(true));
            same("shifted(false)", house.shifted(false), model.shifted(false));
        }

        void ask() {
            int a = near(wide);
            int p = near(high);
            switch (random.nextInt(12)) {
                case 0:
                    int t = random.nextInt(5) == 0 ? near(405) : model.time - random.nextInt(1 + model.time / 4);
                    same("look(" + t + ")", house.look(t) ? 1 : 0, model.lookAt(t) ? 1 : 0);
                    break;
                case 1:
                    same("shaft(" + a + ")", house.shaft(a), model.shaft(a));
                    same("lift(" + p + ")", house.lift(p), model.lift(p));
                    same("row(" + p + ")", house.row(p), model.row(p));
                    break;
                case 2:
                    int what = random.nextInt(6) - 1;
                    same("lead(" + a + ", " + p + ", " + what + ")", house.lead(a, p, what), model.lead(a, p, what));
                    break;
                case 3:
                case 4:
                    boolean warp = random.nextBoolean();
                    boolean over = random.nextBoolean();
                    int n = near(6);
                    same("longest(" + warp + ", " + over + ")", house.longest(warp, over), model.longest(warp, over));
                    same("floats(" + warp + ", " + over + ", " + n + ")", house.floats(warp, over, n), model.floats(warp, over, n));
                    break;
                case 5:
                case 6:
                    askLayers();
                    break;
                case 7:
                    int c = near(10);
                    same("seenColour(" + a + ", " + p + ")", house.seenColour(a, p), model.seenColour(a, p));
                    same("coloured(" + c + ")", house.coloured(c), model.coloured(c));
                    break;
                case 8:
                    boolean ends = random.nextBoolean();
                    boolean colours = random.nextBoolean();
                    same("period(" + ends + ", " + colours + ")", house.period(ends, colours), model.period(ends, colours));
                    break;
                case 9:
                    same("fewest(false)", house.fewest(false), model.fewest(false));
                    same("fewest(true)", house.fewest(true), model.fewest(true));
                    same("pegs(false)", house.pegs(false), model.pegs(false));
                    same("pegs(true)", house.pegs(true), model.pegs(true));
                    break;
                case 10:
                    askCover();
                    break;
                default:
                    int w = random.nextInt(10) - 1;
                    same("about(" + w + ")", house.about(w), model.about(w));
                    break;
            }
        }

        void askCover() {
            List<Integer> cover = model.cover();
            met(cover == null ? "cover none" : "cover " + cover.size());
            same("cover(-1)", house.cover(-1), cover == null ? -1 : cover.size());
            for (int i = -2; i < 7; i++) {
                if (i != -1) {
                    same("cover(" + i + ")", house.cover(i), cover == null || i < 0 || i >= cover.size() ? -1 : cover.get(i));
                }
            }
        }

        void askLayers() {
            int a = random.nextInt(3) == 0 ? near(wide) : 0;
            int b = random.nextInt(3) == 0 ? near(wide) : wide - 1;
            int c = random.nextInt(3) == 0 ? near(high) : 0;
            int d = random.nextInt(3) == 0 ? near(high) : high - 1;
            String part = a + ", " + b + ", " + c + ", " + d;
            int[] layers = model.layers(a, b, c, d);
            int count = layers == null ? -1 : Arrays.stream(layers).max().getAsInt() + 1;
            met(count > 2 ? "many layers" : count + " layers");
            same("layers(" + part + ")", house.layers(a, b, c, d), count);
            for (int i = 0; i < 5; i++) {
                int s = near(wide + high);
                int want = layers == null || s < 0 || s >= wide + high ? -1 : layers[s];
                same("layer(" + part + ", " + s + ")", house.layer(a, b, c, d, s), want);
            }
        }
    }

    /** Makes texts that are good, or nearly so. */
    private static final class Texts {
        final Random random;
        final int maxShaft;
        final TreeSet<Character> told = new TreeSet<>();

        Texts(Random random, int maxShaft) {
            this.random = random;
            this.maxShaft = maxShaft;
        }

        String make(boolean wild) {
            StringBuilder text = new StringBuilder();
            int clauses = wild ? 1 + random.nextInt(9) : 1 + random.nextInt(5);
            for (int i = 0; i < clauses; i++) {
                clause(text, wild);
            }
            if (wild && random.nextInt(12) == 0) {
                text.setLength(0);
                for (int i = 0; i + 7 <= 300; i += 7) {
                    text.append("tread0;");
                }
            }
            if (wild && random.nextInt(3) == 0) {
                for (int i = 1 + random.nextInt(2); i > 0 && text.length() > 0; i--) {
                    spoil(text);
                }
            }
            return text.toString();
        }

        void spoil(StringBuilder text) {
            String signs = "=,;*()0159 \nABHIatomp#\u0000\u00ff\t";
            int at = random.nextInt(text.length());
            char sign = signs.charAt(random.nextInt(signs.length()));
            switch (random.nextInt(3)) {
                case 0:
                    text.setCharAt(at, sign);
                    break;
                case 1:
                    text.deleteCharAt(at);
                    break;
                default:
                    text.insert(at, sign);
                    break;
            }
        }

        void clause(StringBuilder text, boolean wild) {
            switch (random.nextInt(4)) {
                case 0:
                    char letter = (char) ('A' + random.nextInt(8));
                    if (told.contains(letter) && random.nextInt(5) != 0) {
                        letter = (char) ('A' + random.nextInt(8));
                    }
                    text.append("block ").append(letter).append(blank()).append('=').append(blank());
                    row(text, 0, wild);
                    told.add(letter);
                    break;
                case 1:
                    text.append("thread ");
                    row(text, 0, wild);
                    break;
                case 2:
                    text.append("tread ");
                    row(text, 0, wild);
                    break;
                default:
                    text.append("tie ").append(random.nextInt(40) == 0 ? 16 : random.nextInt(4)).append(' ');
                    row(text, 0, wild);
                    break;
            }
            text.append(blank()).append(';').append(blank());
        }

        String blank() {
            int dice = random.nextInt(8);
            return dice == 0 ? " " : dice == 1 ? "\n" : dice == 2 ? " \n " : "";
        }

        void row(StringBuilder text, int depth, boolean wild) {
            int items = 1 + random.nextInt(depth > 1 ? 2 : 3);
            for (int i = 0; i < items; i++) {
                if (i > 0) {
                    text.append(blank()).append(',').append(blank());
                }
                one(text, depth, wild);
                if (random.nextInt(4) == 0) {
                    int times = wild && random.nextInt(3) == 0 ? 40 + random.nextInt(9) : 1 + random.nextInt(4);
                    times = random.nextInt(60) == 0 ? 49 : random.nextInt(60) == 0 ? 0 : times;
                    text.append(blank()).append('*').append(blank()).append(times);
                }
            }
        }

        void one(StringBuilder text, int depth, boolean wild) {
            int dice = random.nextInt(wild && depth < 4 ? 8 : 6);
            if (depth > 0 && depth < 9 && random.nextInt(40) == 0) {
                text.append("((((((((".substring(depth - 1));
                number(text);
                text.append("))))))))".substring(depth - 1));
                return;
            } else if (depth > 9) {
                dice = 0;
            }
            if (dice < 3) {
                number(text);
            } else if (dice == 3) {
                number(text);
                text.append(" to ");
                number(text);
            } else if (dice == 4 && !told.isEmpty()) {
                List<Character> letters = new ArrayList<>(told);
                text.append(random.nextInt(40) == 0 ? 'H' : letters.get(random.nextInt(letters.size())));
            } else {
                int shape = random.nextInt(4);
                text.append(shape == 0 ? "mirror" : shape == 1 ? "back " : shape == 2 ? "plus " + random.nextInt(16) : "");
                text.append(blank()).append('(').append(blank());
                row(text, depth + 1, wild);
                text.append(blank()).append(')');
            }
        }

        void number(StringBuilder text) {
            text.append(random.nextInt(40) == 0 ? "00" : "").append(random.nextInt(80) == 0 ? 16 : random.nextInt(maxShaft));
        }
    }

    private static final class Fault extends RuntimeException {
        static final long serialVersionUID = 1L;
        final int what;
        final int place;

        Fault(int what, int place) {
            this.what = what;
            this.place = place;
        }
    }

    private static final class Token {
        final String word;
        final int place;

        Token(String word, int place) {
            this.word = word;
            this.place = place;
        }

        boolean isNumber() {
            return !word.isEmpty() && Character.isDigit(word.charAt(0)) && word.charAt(0) < 128;
        }

        boolean isLetter() {
            return word.length() == 1 && "ABCDEFGH".contains(word);
        }

        int value() {
            return new java.math.BigInteger(word).min(java.math.BigInteger.valueOf(1000)).intValue();
        }
    }

    /** Reads a text by descending into its ROWS. */
    private static final class Descent {
        final List<Token> tokens = new ArrayList<>();
        final List<int[]> told = new ArrayList<>();
        final java.util.Map<String, List<Integer>> blocks = new java.util.HashMap<>();
        final Model model;
        int at = 0;
        int open = 0;

        Descent(Model model, String text) {
            this.model = model;
            int i = 0;
            while (i < text.length()) {
                int from = i;
                char sign = text.charAt(i);
                i++;
                if (sign == ' ' || sign == '\n') {
                    continue;
                }
                boolean digits = sign >= '0' && sign <= '9';
                if (digits || alphabetic(sign)) {
                    while (i < text.length() && (digits ? text.charAt(i) >= '0' && text.charAt(i) <= '9' : alphabetic(text.charAt(i)))) {
                        i++;
                    }
                }
                tokens.add(new Token(text.substring(from, i), from));
            }
            tokens.add(new Token("", text.length()));
        }

        static boolean alphabetic(char sign) {
            return sign >= 'a' && sign <= 'z' || sign >= 'A' && sign <= 'Z';
        }

        Token now() {
            return tokens.get(at);
        }

        boolean is(String word) {
            return now().word.equals(word);
        }

        void expect(String word) {
            if (!is(word)) {
                throw new Fault(1, now().place);
            }
            at++;
        }

        int number(int least, int most) {
            if (!now().isNumber()) {
                throw new Fault(1, now().place);
            }
            int value = now().value();
            if (value < least || value > most) {
                throw new Fault(2, now().place);
            }
            at++;
            return value;
        }

        void all() {
            while (!is("")) {
                String kind = now().word;
                at++;
                if (kind.equals("block")) {
                    String letter = now().word;
                    if (!now().isLetter()) {
                        throw new Fault(1, now().place);
                    } else if (blocks.containsKey(letter)) {
                        throw new Fault(4, now().place);
                    }
                    at++;
                    expect("=");
                    List<Integer> row = row();
                    expect(";");
                    blocks.put(letter, row);
                } else if (kind.equals("thread") || kind.equals("tread")) {
                    List<Integer> row = row();
                    expect(";");
                    boolean warp = kind.equals("thread");
                    for (int i = 0; i < (warp ? model.wide : model.high); i++) {
                        int n = row.get(i % row.size());
                        told.add(new int[] {warp ? 0 : 2, i, warp ? n : 1 << n});
                    }
                } else if (kind.equals("tie")) {
                    int treadle = number(0, 15);
                    List<Integer> row = row();
                    expect(";");
                    int set = 0;
                    for (int n : row) {
                        set |= 1 << n;
                    }
                    told.add(new int[] {1, treadle, set});
                } else {
                    throw new Fault(1, tokens.get(at - 1).place);
                }
            }
        }

        List<Integer> row() {
            List<Integer> row = new ArrayList<>();
            do {
                List<Integer> one = one();
                if (row.size() + one.size() > 200) {
                    throw new Fault(5, tokens.get(at - 1).place);
                }
                int times = 1;
                if (is("*")) {
                    at++;
                    times = number(1, 48);
                }
                for (int i = 0; i < times; i++) {
                    row.addAll(one);
                }
                if (row.size() > 200) {
                    throw new Fault(5, tokens.get(at - 1).place);
                }
                if (!is(",")) {
                    return row;
                }
                at++;
            } while (true);
        }

        List<Integer> one() {
            List<Integer> one = new ArrayList<>();
            if (now().isNumber()) {
                int a = number(0, 15);
                one.add(a);
                if (is("to")) {
                    at++;
                    int b = number(0, 15);
                    while (a != b) {
                        a += a < b ? 1 : -1;
                        one.add(a);
                    }
                }
                return one;
            }
            if (now().isLetter()) {
                if (!blocks.containsKey(now().word)) {
                    throw new Fault(4, now().place);
                }
                return blocks.get(tokens.get(at++).word);
            }
            String shape = now().word;
            int plus = 0;
            if (shape.equals("mirror") || shape.equals("back")) {
                at++;
            } else if (shape.equals("plus")) {
                at++;
                plus = number(0, 15);
            }
            if (!is("(")) {
                throw new Fault(1, now().place);
            }
            open++;
            if (open == 9) {
                throw new Fault(3, now().place);
            }
            at++;
            List<Integer> inner = row();
            expect(")");
            open--;
            for (int n : inner) {
                one.add((n + plus) % 16);
            }
            List<Integer> reversed = new ArrayList<>(inner);
            Collections.reverse(reversed);
            if (shape.equals("back")) {
                return reversed;
            } else if (shape.equals("mirror") && inner.size() > 2) {
                one.addAll(reversed.subList(1, reversed.size() - 1));
            }
            return one;
        }
    }

    /** Everything is worked out anew for each question, from the list of what was told. */
    private static final class Model {
        final int wide;
        final int high;
        final List<int[]> entries = new ArrayList<>();
        final StringBuilder tape = new StringBuilder();
        final boolean[][] seen;
        int time = 0;
        int look = 0;
        int fault = -1;
        int faultPlace = -1;

        Model(int wide, int high) {
            this.wide = wide;
            this.high = high;
            seen = new boolean[high][wide];
        }

        int tell(boolean good, int kind, int which, int value) {
            if (!good || time == 400 || entries.size() == 2000) {
                return -1;
            }
            time++;
            look = time;
            entries.add(new int[] {kind, which, value, time});
            return time;
        }


        boolean isEnd(int e) {
            return e >= 0 && e < wide;
        }

        boolean isPick(int p) {
            return p >= 0 && p < high;
        }

        int thread(int e, int s) {
            return tell(isEnd(e) && s >= -1 && s <= 15, 0, e, s);
        }

        int tie(int t, int set) {
            return tell(t >= 0 && t <= 15 && set >= 0 && set <= 65535, 1, t, set);
        }

        int tread(int p, int set) {
            return tell(isPick(p) && set >= 0 && set <= 65535, 2, p, set);
        }

        int colour(boolean end, int which, int c) {
            return tell((end ? isEnd(which) : isPick(which)) && c >= 0 && c <= 9, end ? 3 : 4, which, c);
        }

        int feed(int[] words) {
            if (tape.length() + 20 > 300) {
                return -1;
            }
            for (int w : words) {
                tape.append((char) (w >> 24 & 255)).append((char) (w >> 16 & 255)).append((char) (w >> 8 & 255)).append((char) (w & 255));
            }
            return tape.length();
        }

        int end(int n) {
            if (n < 0 || n > tape.length()) {
                return -1;
            }
            tape.setLength(n);
            return n;
        }

        int text() {
            Descent descent = new Descent(this, tape.toString());
            tape.setLength(0);
            fault = 0;
            faultPlace = -1;
            try {
                descent.all();
            } catch (Fault found) {
                fault = found.what;
                faultPlace = found.place;
                return -1;
            }
            if (time == 400 || entries.size() + descent.told.size() > 2000) {
                return -1;
            }
            time++;
            look = time;
            for (int[] t : descent.told) {
                entries.add(new int[] {t[0], t[1], t[2], time});
            }
            return time;
        }

        int fault(int what) {
            return what == 0 ? fault : what == 1 ? faultPlace : -1;
        }

        boolean lookAt(int t) {
            if (t < 0 || t > time) {
                return false;
            }
            look = t;
            return true;
        }

        int[] latest(int kind, int which) {
            int[] found = null;
            for (int[] e : entries) {
                if (e[0] == kind && e[1] == which && e[3] <= look) {
                    found = e;
                }
            }
            return found;
        }

        int value(int kind, int which) {
            int[] found = latest(kind, which);
            return found == null ? kind == 0 ? -1 : 0 : found[2];
        }

        int shaft(int e) {
            return isEnd(e) ? value(0, e) : -1;
        }

        int[] ties() {
            int[] ties = new int[16];
            for (int t = 0; t < 16; t++) {
                ties[t] = value(1, t);
            }
            return ties;
        }

        int[] threading() {
            int[] threading = new int[wide];
            for (int e = 0; e < wide; e++) {
                threading[e] = shaft(e);
            }
            return threading;
        }

        int liftBy(int[] ties, int p) {
            return liftOf(ties, value(2, p));
        }

        static int liftOf(int[] ties, int tread) {
            int lift = 0;
            for (int t = 0; t < 16; t++) {
                if ((tread & 1 << t) != 0) {
                    lift |= ties[t];
                }
            }
            return lift;
        }

        int lift(int p) {
            return isPick(p) ? liftBy(ties(), p) : -1;
        }

        boolean up(int e, int p) {
            return shaft(e) >= 0 && (lift(p) & 1 << shaft(e)) != 0;
        }

        boolean[][] cells() {
            int[] ties = ties();
            int[] threading = threading();
            boolean[][] cells = new boolean[high][wide];
            for (int p = 0; p < high; p++) {
                int lift = liftBy(ties, p);
                for (int e = 0; e < wide; e++) {
                    cells[p][e] = threading[e] >= 0 && (lift & 1 << threading[e]) != 0;
                }
            }
            return cells;
        }

        long row(int p) {
            if (!isPick(p)) {
                return -1;
            }
            long row = 0;
            for (int e = 0; e < wide; e++) {
                row += up(e, p) ? 1L << e : 0;
            }
            return row;
        }

        int lead(int e, int p, int what) {
            if (!isEnd(e) || !isPick(p)) {
                return -1;
            }
            if (what == 0) {
                return shaft(e);
            } else if (what == 1) {
                for (int t = 0; t < 16; t++) {
                    if (shaft(e) >= 0 && (value(2, p) >> t & 1) == 1 && (value(1, t) >> shaft(e) & 1) == 1) {
                        return t;
                    }
                }
                return -1;
            }
            int[] found = what == 2 ? latest(0, e) : what == 3 ? latest(2, p) : null;
            return found == null ? -1 : found[3];
        }

        List<Integer> runs(boolean warp, boolean over) {
            boolean[][] cells = cells();
            List<Integer> runs = new ArrayList<>();
            int lines = warp ? wide : high;
            int n = warp ? high : wide;
            for (int line = 0; line < lines; line++) {
                boolean[] on = new boolean[n];
                boolean all = true;
                for (int i = 0; i < n; i++) {
                    on[i] = warp ? cells[i][line] : !cells[line][i];
                    all &= on[i];
                }
                if (all) {
                    runs.add(n);
                    continue;
                }
                for (int i = 0; i < n; i++) {
                    boolean starts = on[i] && (i > 0 ? !on[i - 1] : !over || !on[n - 1]);
                    if (starts) {
                        int length = 0;
                        while ((over || i + length < n) && on[(i + length) % n]) {
                            length++;
                        }
                        runs.add(length);
                    }
                }
            }
            return runs;
        }

        int longest(boolean warp, boolean over) {
            return runs(warp, over).stream().mapToInt(r -> r).max().orElse(0);
        }

        int floats(boolean warp, boolean over, int n) {
            return (int) runs(warp, over).stream().filter(r -> r > n).count();
        }

        /** For each STRAND its LAYER, -1 outside the part. */
        int[] layers(int a, int b, int c, int d) {
            if (!isEnd(a) || !isEnd(b) || !isPick(c) || !isPick(d) || a > b || c > d) {
                return null;
            }
            boolean[][] cells = cells();
            int n = wide + high;
            boolean[] in = new boolean[n];
            boolean[][] above = new boolean[n][n];
            for (int s = 0; s < n; s++) {
                in[s] = s >= a && s <= b || s >= wide + c && s <= wide + d;
            }
            for (int e = a; e <= b; e++) {
                for (int p = c; p <= d; p++) {
                    above[e][wide + p] = cells[p][e];
                    above[wide + p][e] = !cells[p][e];
                }
            }
            boolean[][] chain = new boolean[n][n];
            for (int s = 0; s < n; s++) {
                descend(above, s, chain[s]);
            }
            int[] layer = new int[n];
            Arrays.fill(layer, -1);
            int next = 0;
            while (true) {
                int best = -1;
                for (int s = 0; s < n && best < 0; s++) {
                    if (in[s] && layer[s] < 0) {
                        boolean top = true;
                        for (int r = 0; r < n; r++) {
                            top &= !(in[r] && layer[r] < 0 && chain[r][s] && !chain[s][r]);
                        }
                        best = top ? s : -1;
                    }
                }
                if (best < 0) {
                    return layer;
                }
                for (int r = 0; r < n; r++) {
                    if (r == best || chain[r][best] && chain[best][r]) {
                        layer[r] = next;
                    }
                }
                next++;
            }
        }

        static void descend(boolean[][] above, int s, boolean[] reached) {
            for (int r = 0; r < above.length; r++) {
                if (above[s][r] && !reached[r]) {
                    reached[r] = true;
                    descend(above, r, reached);
                }
            }
        }

        int seenColour(int e, int p) {
            return !isEnd(e) || !isPick(p) ? -1 : up(e, p) ? value(3, e) : value(4, p);
        }

        int[][] colours() {
            boolean[][] cells = cells();
            int[][] colours = new int[high][wide];
            for (int e = 0; e < wide; e++) {
                int colour = value(3, e);
                for (int p = 0; p < high; p++) {
                    colours[p][e] = cells[p][e] ? colour : -1;
                }
            }
            for (int p = 0; p < high; p++) {
                int colour = value(4, p);
                for (int e = 0; e < wide; e++) {
                    colours[p][e] = colours[p][e] < 0 ? colour : colours[p][e];
                }
            }
            return colours;
        }

        int coloured(int c) {
            if (c < 0 || c > 9) {
                return -1;
            }
            int count = 0;
            for (int[] row : colours()) {
                for (int colour : row) {
                    count += colour == c ? 1 : 0;
                }
            }
            return count;
        }

        int period(boolean ends, boolean byColours) {
            int[][] what = colours();
            if (!byColours) {
                boolean[][] cells = cells();
                for (int p = 0; p < high; p++) {
                    for (int e = 0; e < wide; e++) {
                        what[p][e] = cells[p][e] ? 1 : 0;
                    }
                }
            }
            for (int n = 1;; n++) {
                boolean like = true;
                for (int p = 0; p < high; p++) {
                    for (int e = 0; e < wide; e++) {
                        int e2 = ends ? e + n : e;
                        int p2 = ends ? p : p + n;
                        like &= e2 >= wide || p2 >= high || what[p][e] == what[p2][e2];
                    }
                }
                if (like) {
                    return n;
                }
            }
        }

        int fewest(boolean treadles) {
            boolean[][] cells = cells();
            TreeSet<String> unlike = new TreeSet<>();
            for (int i = 0; i < (treadles ? high : wide); i++) {
                StringBuilder line = new StringBuilder();
                for (int j = 0; j < (treadles ? wide : high); j++) {
                    line.append((treadles ? cells[i][j] : cells[j][i]) ? 'x' : '.');
                }
                if (line.indexOf("x") >= 0) {
                    unlike.add(line.toString());
                }
            }
            return unlike.size();
        }

        boolean isUsed(int s) {
            for (int e = 0; e < wide; e++) {
                if (shaft(e) == s) {
                    return true;
                }
            }
            return false;
        }

        int pegs(boolean turned) {
            int count = 0;
            for (int s = 0; s < 16; s++) {
                for (int p = 0; p < high; p++) {
                    boolean in = (lift(p) >> s & 1) == 1;
                    count += turned ? !in && isUsed(s) ? 1 : 0 : in ? 1 : 0;
                }
            }
            return count;
        }

        List<Integer> cover() {
            int used = 0;
            for (int s = 0; s < 16; s++) {
                used |= isUsed(s) ? 1 << s : 0;
            }
            TreeSet<Integer> lifts = new TreeSet<>();
            for (int p = 0; p < high; p++) {
                lifts.add(lift(p) & used);
            }
            lifts.remove(0);
            if (lifts.size() > 5) {
                return null;
            }
            TreeSet<Integer> ties = new TreeSet<>(lifts);
            for (int round = 0; round < 5; round++) {
                for (int tie : new ArrayList<>(ties)) {
                    for (int lift : lifts) {
                        ties.add(tie & lift);
                    }
                }
            }
            ties.remove(0);
            List<Integer> all = new ArrayList<>(ties);
            for (int size = 0;; size++) {
                List<Integer> found = combine(all, 0, size, new ArrayList<>(), lifts);
                if (found != null) {
                    return found;
                }
            }
        }

        static List<Integer> combine(List<Integer> all, int from, int more, List<Integer> chosen, TreeSet<Integer> lifts) {
            if (more == 0) {
                for (int lift : lifts) {
                    int together = 0;
                    for (int tie : chosen) {
                        together |= (tie & lift) == tie ? tie : 0;
                    }
                    if (together != lift) {
                        return null;
                    }
                }
                return new ArrayList<>(chosen);
            }
            for (int i = from; i + more <= all.size(); i++) {
                chosen.add(all.get(i));
                List<Integer> found = combine(all, i + 1, more - 1, chosen, lifts);
                chosen.remove(chosen.size() - 1);
                if (found != null) {
                    return found;
                }
            }
            return null;
        }

        boolean seen(int p, long row) {
            if (!isPick(p)) {
                return false;
            }
            for (int e = 0; e < wide; e++) {
                seen[p][e] = (row >> e & 1) == 1;
            }
            return true;
        }

        int wrongOf(int e) {
            return isEnd(e) ? unlike(e, shaft(e), lifts(ties())) : -1;
        }

        int[] treads() {
            int[] treads = new int[high];
            for (int p = 0; p < high; p++) {
                treads[p] = value(2, p);
            }
            return treads;
        }

        int[] lifts(int[] ties) {
            int[] lifts = new int[high];
            for (int p = 0; p < high; p++) {
                lifts[p] = liftBy(ties, p);
            }
            return lifts;
        }

        int unlike(int e, int s, int[] lifts) {
            int count = 0;
            for (int p = 0; p < high; p++) {
                boolean up = s >= 0 && (lifts[p] >> s & 1) == 1;
                count += up != seen[p][e] ? 1 : 0;
            }
            return count;
        }

        int[] nearestBy(int e, int own, int[] lifts) {
            int[] order = new int[18];
            order[0] = own;
            for (int i = -1; i < 16; i++) {
                order[i + 2] = i;
            }
            int[] best = null;
            for (int s : order) {
                int u = unlike(e, s, lifts);
                if (best == null || u < best[1]) {
                    best = new int[] {s, u};
                }
            }
            return best;
        }

        int nearest(int e, int what) {
            return !isEnd(e) || what < 0 || what > 1 ? -2 : nearestBy(e, shaft(e), lifts(ties()))[what];
        }

        private int[] mendedAt;
        private String mendedFor = "";

        /** Cost, TREADLE, SHAFT, then the SHAFTS of all ENDS; null if there is none. */
        int[] mend() {
            String now = time + "/" + look + Arrays.deepToString(seen);
            if (now.equals(mendedFor)) {
                return mendedAt;
            }
            mendedFor = now;
            mendedAt = null;
            int[] threading = threading();
            int[] treads = treads();
            for (int change = -1; change < 256; change++) {
                int[] ties = ties16(change);
                int[] lifts = new int[high];
                for (int p = 0; p < high; p++) {
                    lifts[p] = liftOf(ties, treads[p]);
                }
                int[] found = new int[3 + wide];
                found[0] = change < 0 ? 0 : 1;
                found[1] = change < 0 ? -1 : change / 16;
                found[2] = change < 0 ? -1 : change % 16;
                boolean good = true;
                for (int e = 0; e < wide && good; e++) {
                    int[] nearest = nearestBy(e, threading[e], lifts);
                    good = nearest[1] == 0;
                    found[3 + e] = nearest[0];
                    found[0] += nearest[0] == threading[e] ? 0 : 1;
                }
                if (good && (mendedAt == null || found[0] < mendedAt[0])) {
                    mendedAt = found;
                }
            }
            return mendedAt;
        }

        private int[] ties16(int change) {
            int[] ties = ties();
            if (change >= 0) {
                ties[change / 16] ^= 1 << change % 16;
            }
            return ties;
        }

        int mended(int what) {
            int[] found = mend();
            return found == null || what < 0 || what > 2 ? -2 : found[what];
        }

        int mendedShaft(int e) {
            int[] found = mend();
            return found == null || !isEnd(e) ? -2 : found[3 + e];
        }

        int shifted(boolean ends) {
            boolean[][] cells = cells();
            for (int dy = 0; dy < high; dy++) {
                for (int dx = 0; dx < wide; dx++) {
                    boolean like = true;
                    for (int p = 0; p < high && like; p++) {
                        for (int e = 0; e < wide && like; e++) {
                            like = seen[(p + dy) % high][(e + dx) % wide] == cells[p][e];
                        }
                    }
                    if (like) {
                        return ends ? dx : dy;
                    }
                }
            }
            return -1;
        }

        int about(int what) {
            switch (what) {
                case 0:
                    return wide;
                case 1:
                    return high;
                case 2:
                    return time;
                case 3:
                    return look;
                case 4:
                    return entries.size();
                case 5:
                    int count = 0;
                    for (boolean[] row : cells()) {
                        for (boolean cell : row) {
                            count += cell ? 1 : 0;
                        }
                    }
                    return count;
                case 6:
                    return tape.length();
                case 7:
                    int threaded = 0;
                    for (int s : threading()) {
                        threaded += s >= 0 ? 1 : 0;
                    }
                    return threaded;
                default:
                    return -1;
            }
        }
    }
}
