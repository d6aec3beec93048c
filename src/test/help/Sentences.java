import java.util.ArrayList;
import java.util.List;

/** Holds answers against sentences of the document, and what a refused call leaves against a twin without that call. */
final class Sentences {
    /** Makes an object; two of them made so are twins. */
    interface Making {
        DraftHouse make();
    }

    interface Call {
        long on(DraftHouse x);
    }

    private static final int MOST_PRINTED = 40;
    private static String sentence = "";
    private static int wrong = 0;

    private Sentences() {
    }

    /** The sentence that the next answers belong to. */
    static void says(String words) {
        sentence = words;
    }

    static void due(String what, long got, long want) {
        if (got != want) {
            wrong++;
            if (wrong <= MOST_PRINTED) {
                System.out.println("\"" + sentence + "\": " + what + " answered " + got + ", due is " + want);
            }
        }
    }

    static void due(String what, boolean got, boolean want) {
        due(what, got ? 1 : 0, want ? 1 : 0);
    }

    static void finish() {
        System.out.println(wrong == 0 ? "all sentences hold" : wrong + " answers are not as the sentences say");
        if (wrong != 0) {
            System.exit(1);
        }
    }

    /** The call is answered so, and leaves all else as it is. */
    static void refused(String what, Making making, Call call, long answer) {
        DraftHouse asked = making.make();
        due(what, call.on(asked), answer);
        alike(what, all(asked, true), all(making.make(), true));
    }

    /** Likewise, if it is a text, which empties the tape and has a FAULT of its own, or none. */
    static void refusedTelling(String what, Making making, Call call, boolean isText) {
        DraftHouse asked = making.make();
        DraftHouse twin = making.make();
        due(what, call.on(asked), -1);
        if (isText) {
            twin.end(0);
        }
        alike(what, all(asked, !isText), all(twin, !isText));
    }

    /** The tape has this text, which is not taken: FAULT and place are told, the tape is empty, all else is left. */
    static void refusedText(String text, Making making, int fault, int place) {
        DraftHouse asked = making.make();
        DraftHouse twin = making.make();
        due("text() of " + text, Tapes.tell(asked, text), -1);
        due("fault(0) of " + text, asked.fault(0), fault);
        due("fault(1) of " + text, asked.fault(1), place);
        due("the tape behind " + text, asked.about(6), 0);
        twin.end(0);
        alike("what is behind " + text, all(asked, false), all(twin, false));
    }

    private static void alike(String what, List<Long> got, List<Long> want) {
        due("how much is to see behind " + what, got.size(), want.size());
        for (int i = 0; i < got.size() && i < want.size(); i++) {
            due("answer " + i + " behind " + what, got.get(i), want.get(i));
        }
    }

    /** What is to see of an object's first threads, at four TIMES; the tape comes last, as it is read as a text for it. */
    private static List<Long> all(DraftHouse x, boolean withFault) {
        List<Long> found = new ArrayList<>();
        for (int what = 0; what < 8; what++) {
            found.add((long) x.about(what));
        }
        if (withFault) {
            found.add((long) x.fault(0));
            found.add((long) x.fault(1));
        }
        int wide = Math.min(4, x.about(0));
        int high = Math.min(3, x.about(1));
        addDraft(found, x, wide, high);
        addAnswers(found, x, wide, high);
        int last = x.about(2);
        for (int time : new int[] {0, 1, last / 2, last}) {
            found.add(x.look(time) ? 1L : 0L);
            addDraft(found, x, Math.min(2, wide), 1);
        }
        found.add((long) x.text());
        found.add((long) x.fault(0));
        found.add((long) x.fault(1));
        found.add((long) x.about(4));
        addDraft(found, x, wide, high);
        return found;
    }

    private static void addDraft(List<Long> found, DraftHouse x, int wide, int high) {
        for (int end = 0; end < wide; end++) {
            found.add((long) x.shaft(end));
            found.add((long) x.lead(end, 0, 2));
        }
        for (int pick = 0; pick < high; pick++) {
            found.add((long) x.lift(pick));
            found.add(x.row(pick));
            found.add((long) x.lead(0, pick, 3));
            found.add((long) x.seenColour(0, pick));
        }
    }

    private static void addAnswers(List<Long> found, DraftHouse x, int wide, int high) {
        found.add((long) x.longest(true, true));
        found.add((long) x.longest(false, false));
        found.add((long) x.floats(true, false, 0));
        found.add((long) x.layers(0, wide - 1, 0, high - 1));
        found.add((long) x.coloured(0));
        found.add((long) x.period(true, true));
        found.add((long) x.period(false, false));
        found.add((long) x.fewest(true));
        found.add((long) x.pegs(true));
        found.add((long) x.cover(-1));
        found.add((long) x.mended(0));
        found.add((long) x.shifted(true));
        for (int end = 0; end < wide; end++) {
            found.add((long) x.wrong(end));
            found.add((long) x.nearest(end, 0));
            found.add((long) x.mendedShaft(end));
        }
    }
}
