import java.util.ArrayList;
import java.util.Arrays;
import java.util.List;
import java.util.function.Supplier;
import java.util.function.ToIntFunction;

/**
 * Each sentence of the document that names a boundary, in the document's order and by its words: the last that is
 * allowed and the first that is not, nothing there and everything full, what is cut or wraps around, each refusal,
 * which of two comes first, and that what is refused changes nothing else.
 */
public final class EdgeTest {
    private static final int BAD = -1, FULL = -2, FINDING = -3, STATE = -4, NONE = -9;
    private static final int NOTHING = 1, BEYOND = 2, UNLIKE = 3, NOUGHT = 4, SIZE = 5;
    private static final int MIN = Integer.MIN_VALUE, MAX = Integer.MAX_VALUE;
    private static final int MOST_CALLS = 512, LAST_SEED = 2147483646;

    private static int wrong = 0;
    private static int checks = 0;
    private static String sentence = "";

    private static void says(String words) {
        sentence = words;
    }

    private static void due(String call, long got, long want) {
        checks++;
        if (got != want) {
            wrong++;
            System.out.println("\"" + sentence + "\": " + call + " answered " + got + ", due is " + want);
        }
    }

    /** What a call told that answers 1 and tells by asked(). */
    private static int told(BlindPost x, int answer) {
        due("a call that tells", answer, 1);
        return x.asked();
    }

    private static void write(BlindPost x, int t, String text) {
        x.text(t, text.length());
        for (int i = 0; i < text.length(); i++) {
            x.put(t, i, text.charAt(i));
        }
    }

    private static BlindPost landOf(String text) {
        BlindPost x = new BlindPost();
        write(x, 0, text);
        due("land of \"" + text + "\" stands", x.land(0) >= 0 ? 1 : 0, 1);
        return x;
    }

    private static void rowOf(BlindPost x, int r, int... values) {
        x.row(r, values.length);
        for (int i = 0; i < values.length; i++) {
            x.lay(r, i, values[i]);
        }
    }

    private static void dueRow(BlindPost x, String what, int r, int... values) {
        for (int i = 0; i < values.length; i++) {
            due(what + " at " + i, told(x, x.at(r, i)), values[i]);
        }
        due(what + " ends", x.at(r, values.length), FINDING);
        due(what + " ends there", x.finding(), BEYOND);
    }

    private static String times(String part, int n) {
        StringBuilder all = new StringBuilder();
        for (int i = 0; i < n; i++) {
            all.append(part);
        }
        return all.toString();
    }

    private static void hoursTo(BlindPost x, int hour) {
        while (x.count(2) < hour) {
            x.hours(Math.min(20, hour - x.count(2)));
        }
    }

    // ---- what is refused changes nothing else

    /** All seven HANDS, eight MEETINGS, HOUR 11; of three LETTERS one is on its way, one there, one not yet given. */
    private static BlindPost busy() {
        BlindPost x = landOf("h013 c2 s4 l1 u03 y h0134 m010 m121 m232 m363 m144 m465 m056 m562");
        x.send(0, 6, 1);
        x.send(0, 6, 9);
        x.give(0, 1);
        x.hours(1);
        x.give(0, 2);
        x.hours(5);
        x.give(1, 5);
        x.keep(2);
        x.hours(4);
        x.give(1, 6);
        x.send(6, 0, 8);
        x.hours(1);
        x.keep(1);
        x.teach(3, 2, 1);
        rowOf(x, 0, 3, 1, 4);
        x.row(1, 0);
        rowOf(x, 2, 128, 1, 7);
        rowOf(x, 3, 3, 2);
        rowOf(x, 4, 40, 32);
        write(x, 1, "h0 hq");
        x.text(3, 0);
        x.row(5, -1);
        x.lay(0, 0, 5);
        return x;
    }

    /** As busy(), with sixteen MEETINGS, four LETTERS, HOUR 99, all LANDS kept. */
    private static BlindPost full() {
        BlindPost x = busy();
        for (int m = 8; m < 16; m++) {
            x.meet(0, 2, m % 8);
        }
        x.send(0, 6, 2);
        hoursTo(x, 99);
        x.keep(0);
        x.at(0, 1);
        return x;
    }

    private static BlindPost fresh() {
        return new BlindPost();
    }

    /** Without HANDS, at the last HOUR. */
    private static BlindPost late() {
        BlindPost x = new BlindPost();
        hoursTo(x, 99);
        return x;
    }

    private static void probeLetters(BlindPost x, List<Long> seen) {
        for (int k = 0; k < 4; k++) {
            seen.add((long) x.where(k));
            seen.add((long) x.asked());
        }
    }

    /** All that can be seen of an object, but for its findings; it goes on in the kept LANDS. */
    private static List<Long> probe(BlindPost x) {
        List<Long> seen = new ArrayList<>();
        seen.add((long) x.asked());
        seen.add(x.digest());
        probeLetters(x, seen);
        for (int k = 0; k < 3; k++) {
            seen.add((long) x.on(k));
            seen.add(x.digest());
            probeLetters(x, seen);
        }
        return seen;
    }

    private static void refused(Supplier<BlindPost> state, String call, ToIntFunction<BlindPost> by, int want, int finding) {
        BlindPost x = state.get();
        BlindPost twin = state.get();
        due(call, by.applyAsInt(x), want);
        due(call + ": finding()", x.finding(), finding == 0 ? twin.finding() : finding);
        for (int f = 1; f <= 5; f++) {
            due(call + ": findings(" + f + ")", x.findings(f), twin.findings(f) + (f == finding ? 1 : 0));
        }
        due(call + " changes nothing else", probe(x).equals(probe(twin)) ? 1 : 0, 1);
    }

    private static void no(Supplier<BlindPost> state, String call, int want, ToIntFunction<BlindPost> by) {
        refused(state, call, by, want, 0);
    }

    private static void found(Supplier<BlindPost> state, String call, int finding, ToIntFunction<BlindPost> by) {
        refused(state, call, by, FINDING, finding);
    }

    private static void refusedRows() {
        Supplier<BlindPost> s = EdgeTest::busy;
        says("BAD: a number that is none (ROWS 0 .. 5)");
        for (int r : new int[] {-1, 6, MIN, MAX}) {
            no(s, "row(" + r + ", 1)", BAD, x -> x.row(r, 1));
            no(s, "lay(" + r + ", 0, 1)", BAD, x -> x.lay(r, 0, 1));
            no(s, "at(" + r + ", 0)", BAD, x -> x.at(r, 0));
            no(s, "tear(" + r + ")", BAD, x -> x.tear(r));
            no(s, "copy(" + r + ", 0, 0, 0, 1)", BAD, x -> x.copy(r, 0, 0, 0, 1));
            no(s, "copy(0, 0, " + r + ", 0, 1)", BAD, x -> x.copy(0, 0, r, 0, 1));
            no(s, "mean(" + r + ")", BAD, x -> x.mean(r));
            no(s, "hands(0, " + r + ")", BAD, x -> x.hands(0, r));
            no(s, "way(0, 6, 1, " + r + ")", BAD, x -> x.way(0, 6, 1, r));
            no(s, "reader(" + r + ")", BAD, x -> x.reader(r));
            no(s, "readers(" + r + ")", BAD, x -> x.readers(r));
            no(s, "knows(" + r + ")", BAD, x -> x.knows(r));
        }
        says("row: BAD: also n above 40; SIZE: below 0");
        no(s, "row(0, 41)", BAD, x -> x.row(0, 41));
        no(s, "row(5, MAX)", BAD, x -> x.row(5, MAX));
        found(s, "row(0, -1)", SIZE, x -> x.row(0, -1));
        found(s, "row(5, MIN)", SIZE, x -> x.row(5, MIN));
        no(s, "BAD ahead of SIZE", BAD, x -> x.row(6, -1));
        says("lay, at, tear, mean: NOTHING; BEYOND; NOUGHT");
        found(s, "lay(5, 0, 1)", NOTHING, x -> x.lay(5, 0, 1));
        found(s, "NOTHING ahead of BEYOND: lay", NOTHING, x -> x.lay(5, -1, 1));
        found(s, "lay(0, 3, 1)", BEYOND, x -> x.lay(0, 3, 1));
        found(s, "lay(0, -1, 1)", BEYOND, x -> x.lay(0, -1, 1));
        found(s, "lay(1, 0, 1)", BEYOND, x -> x.lay(1, 0, 1));
        found(s, "at(5, 0)", NOTHING, x -> x.at(5, 0));
        found(s, "NOTHING ahead of BEYOND: at", NOTHING, x -> x.at(5, 40));
        found(s, "at(0, 3)", BEYOND, x -> x.at(0, 3));
        found(s, "at(0, -1)", BEYOND, x -> x.at(0, -1));
        found(s, "at(1, 0)", BEYOND, x -> x.at(1, 0));
        found(s, "at(0, MAX)", BEYOND, x -> x.at(0, MAX));
        found(s, "at(0, MIN)", BEYOND, x -> x.at(0, MIN));
        found(s, "tear(5)", NOTHING, x -> x.tear(5));
        found(s, "mean(5)", NOTHING, x -> x.mean(5));
        found(s, "mean(1)", NOUGHT, x -> x.mean(1));
    }

    private static void refusedCopies() {
        Supplier<BlindPost> s = EdgeTest::busy;
        says("copy: BAD. SIZE: n below 0; NOTHING: either; BEYOND: not so many there. (In this order.)");
        no(s, "BAD ahead of all: from", BAD, x -> x.copy(6, -1, 5, -1, -1));
        no(s, "BAD ahead of all: to", BAD, x -> x.copy(5, -1, -1, -1, -1));
        found(s, "SIZE ahead of NOTHING: from", SIZE, x -> x.copy(5, -1, 0, 0, -1));
        found(s, "SIZE ahead of NOTHING: to", SIZE, x -> x.copy(0, 0, 5, -1, MIN));
        found(s, "SIZE ahead of BEYOND", SIZE, x -> x.copy(0, 4, 0, -1, -1));
        found(s, "NOTHING ahead of BEYOND: from", NOTHING, x -> x.copy(5, 0, 0, 9, 1));
        found(s, "NOTHING ahead of BEYOND: to", NOTHING, x -> x.copy(0, 9, 5, 0, 1));
        found(s, "NOTHING of none", NOTHING, x -> x.copy(5, 0, 5, 0, 0));
        found(s, "one too many from", BEYOND, x -> x.copy(0, 1, 4, 0, 3));
        found(s, "one too many to", BEYOND, x -> x.copy(0, 0, 4, 1, 2));
        found(s, "n MAX", BEYOND, x -> x.copy(0, 1, 4, 1, MAX));
        found(s, "from MAX", BEYOND, x -> x.copy(0, MAX, 4, 0, 1));
        found(s, "to MAX", BEYOND, x -> x.copy(0, 0, 4, MAX, 1));
        found(s, "from MIN", BEYOND, x -> x.copy(0, MIN, 4, 0, 1));
        found(s, "from -1", BEYOND, x -> x.copy(0, -1, 4, 0, 1));
        found(s, "to -1", BEYOND, x -> x.copy(0, 0, 4, -1, 1));
        says("copy: with n 0, too, if i or j is below 0 or above the size");
        found(s, "none from -1", BEYOND, x -> x.copy(0, -1, 4, 0, 0));
        found(s, "none to -1", BEYOND, x -> x.copy(0, 0, 4, -1, 0));
        found(s, "none from above the size", BEYOND, x -> x.copy(0, 4, 4, 0, 0));
        found(s, "none to above the size", BEYOND, x -> x.copy(0, 0, 4, 3, 0));
        found(s, "none to above the size of none", BEYOND, x -> x.copy(0, 0, 1, 1, 0));
    }

    private static void refusedTexts() {
        Supplier<BlindPost> s = EdgeTest::busy;
        says("BAD: a number that is none (TEXTS 0 .. 3)");
        for (int t : new int[] {-1, 4, MIN, MAX}) {
            no(s, "text(" + t + ", 1)", BAD, x -> x.text(t, 1));
            no(s, "put(" + t + ", 0, 1)", BAD, x -> x.put(t, 0, 1));
            no(s, "fault(" + t + ")", BAD, x -> x.fault(t));
            no(s, "land(" + t + ")", BAD, x -> x.land(t));
        }
        says("text: BAD: also n above 80; SIZE: below 0");
        no(s, "text(0, 81)", BAD, x -> x.text(0, 81));
        no(s, "text(3, MAX)", BAD, x -> x.text(3, MAX));
        found(s, "text(0, -1)", SIZE, x -> x.text(0, -1));
        found(s, "text(3, MIN)", SIZE, x -> x.text(3, MIN));
        no(s, "BAD ahead of SIZE", BAD, x -> x.text(4, -1));
        says("put: BAD; NOTHING; BEYOND");
        found(s, "put(2, 0, 1)", NOTHING, x -> x.put(2, 0, 1));
        found(s, "NOTHING ahead of BEYOND", NOTHING, x -> x.put(2, -1, 1));
        found(s, "put(1, 5, 1)", BEYOND, x -> x.put(1, 5, 1));
        found(s, "put(1, -1, 1)", BEYOND, x -> x.put(1, -1, 1));
        found(s, "put(3, 0, 1)", BEYOND, x -> x.put(3, 0, 1));
        found(s, "put(1, MAX, 1)", BEYOND, x -> x.put(1, MAX, 1));
        found(s, "put(1, MIN, 1)", BEYOND, x -> x.put(1, MIN, 1));
        says("fault: BAD; NOTHING");
        found(s, "fault(2)", NOTHING, x -> x.fault(2));
        says("land: BAD; NOTHING; STATE: a FAULT. (STATE behind NOTHING.)");
        found(s, "land(2)", NOTHING, x -> x.land(2));
        no(s, "land(1)", STATE, x -> x.land(1));
    }

    private static void refusedHands() {
        Supplier<BlindPost> s = EdgeTest::busy;
        says("BAD: a number that is none (HANDS)");
        for (int h : new int[] {-1, 7, MIN, MAX}) {
            no(s, "hand(" + h + ", 0)", BAD, x -> x.hand(h, 0));
            no(s, "mark(" + h + ", 1)", BAD, x -> x.mark(h, 1));
            no(s, "teach(" + h + ", 0, 1)", BAD, x -> x.teach(h, 0, 1));
            no(s, "meet(" + h + ", 0, 0)", BAD, x -> x.meet(h, 0, 0));
            no(s, "meet(0, " + h + ", 0)", BAD, x -> x.meet(0, h, 0));
            no(s, "may(" + h + ", 1)", BAD, x -> x.may(h, 1));
            no(s, "meets(" + h + ", 0)", BAD, x -> x.meets(h, 0));
            no(s, "send(" + h + ", 0, 1)", BAD, x -> x.send(h, 0, 1));
            no(s, "send(0, " + h + ", 1)", BAD, x -> x.send(0, h, 1));
            no(s, "give(0, " + h + ")", BAD, x -> x.give(0, h));
            no(s, "soon(" + h + ", 0, 1, 0)", BAD, x -> x.soon(h, 0, 1, 0));
            no(s, "soon(0, " + h + ", 1, 0)", BAD, x -> x.soon(0, h, 1, 0));
            no(s, "way(" + h + ", 0, 1, 0)", BAD, x -> x.way(h, 0, 1, 0));
            no(s, "way(0, " + h + ", 1, 0)", BAD, x -> x.way(0, h, 1, 0));
            no(s, "tongue(" + h + ", 0, 0)", BAD, x -> x.tongue(h, 0, 0));
            no(s, "tongue(0, " + h + ", 0)", BAD, x -> x.tongue(0, h, 0));
            no(s, "parts(" + h + ", 0, 1, 0)", BAD, x -> x.parts(h, 0, 1, 0));
            no(s, "parts(0, " + h + ", 1, 0)", BAD, x -> x.parts(0, h, 1, 0));
            no(s, "apart(" + h + ", 0, 1)", BAD, x -> x.apart(h, 0, 1));
            no(s, "apart(0, " + h + ", 1)", BAD, x -> x.apart(0, h, 1));
            no(s, "needs(" + h + ", 0, 1)", BAD, x -> x.needs(h, 0, 1));
            no(s, "needs(0, " + h + ", 1)", BAD, x -> x.needs(0, h, 1));
            no(s, "forget(" + h + ", 0, 1)", BAD, x -> x.forget(h, 0, 1));
            no(s, "forget(0, " + h + ", 1)", BAD, x -> x.forget(0, h, 1));
            no(s, "reach(" + h + ", 0)", BAD, x -> x.reach(h, 0));
            no(s, "taught(" + h + ", 0)", BAD, x -> x.taught(h, 0));
            no(s, "worth(" + h + ")", BAD, x -> x.worth(h));
        }
        says("No ROWS, TEXTS, HANDS: nobody is the first hand");
        Supplier<BlindPost> none = EdgeTest::fresh;
        no(none, "hand(0, 0)", BAD, x -> x.hand(0, 0));
        no(none, "mark(0, 1)", BAD, x -> x.mark(0, 1));
        no(none, "teach(0, 0, 1)", BAD, x -> x.teach(0, 0, 1));
        no(none, "meet(0, 1, 0)", BAD, x -> x.meet(0, 1, 0));
        no(none, "may(0, 1)", BAD, x -> x.may(0, 1));
        no(none, "meets(0, 0)", BAD, x -> x.meets(0, 0));
        no(none, "send(0, 1, 1)", BAD, x -> x.send(0, 1, 1));
        no(none, "give(0, 0)", BAD, x -> x.give(0, 0));
        no(none, "soon(0, 1, 1, 0)", BAD, x -> x.soon(0, 1, 1, 0));
        no(none, "reach(0, 0)", BAD, x -> x.reach(0, 0));
        no(none, "taught(0, 0)", BAD, x -> x.taught(0, 0));
        no(none, "worth(0)", BAD, x -> x.worth(0));
    }

    private static void refusedTongues() {
        Supplier<BlindPost> s = EdgeTest::busy;
        says("BAD: a number that is none (TONGUES are 0 .. 4)");
        for (int t : new int[] {-1, 5, MIN, MAX}) {
            no(s, "teach(0, " + t + ", 1)", BAD, x -> x.teach(0, t, 1));
            no(s, "reach(0, " + t + ")", BAD, x -> x.reach(0, t));
            no(s, "taught(0, " + t + ")", BAD, x -> x.taught(0, t));
        }
        says("BAD: TONGUES not 1 .. 31");
        for (int set : new int[] {0, 32, -1, MIN, MAX}) {
            no(s, "may(0, " + set + ")", BAD, x -> x.may(0, set));
            no(s, "send(0, 6, " + set + ")", BAD, x -> x.send(0, 6, set));
            no(s, "soon(0, 6, " + set + ", 0)", BAD, x -> x.soon(0, 6, set, 0));
            no(s, "way(0, 6, " + set + ", 0)", BAD, x -> x.way(0, 6, set, 0));
            no(s, "parts(0, 6, " + set + ", 0)", BAD, x -> x.parts(0, 6, set, 0));
            no(s, "apart(0, 6, " + set + ")", BAD, x -> x.apart(0, 6, set));
            no(s, "needs(0, 6, " + set + ")", BAD, x -> x.needs(0, 6, set));
            no(s, "forget(0, 6, " + set + ")", BAD, x -> x.forget(0, 6, set));
        }
        says("BAD: an HOUR (0 .. 99)");
        for (int hour : new int[] {-1, 100, MIN, MAX}) {
            no(s, "meets(0, " + hour + ")", BAD, x -> x.meets(0, hour));
            no(s, "soon(0, 6, 1, " + hour + ")", BAD, x -> x.soon(0, 6, 1, hour));
            no(s, "tongue(0, 6, " + hour + ")", BAD, x -> x.tongue(0, 6, hour));
            no(s, "parts(0, 6, 1, " + hour + ")", BAD, x -> x.parts(0, 6, 1, hour));
        }
        says("BAD: also to oneself");
        for (int h : new int[] {0, 6}) {
            no(s, "send to oneself", BAD, x -> x.send(h, h, 1));
            no(s, "soon to oneself", BAD, x -> x.soon(h, h, 1, 0));
            no(s, "way to oneself", BAD, x -> x.way(h, h, 1, 0));
            no(s, "tongue to oneself", BAD, x -> x.tongue(h, h, 0));
            no(s, "parts to oneself", BAD, x -> x.parts(h, h, 1, 0));
            no(s, "apart to oneself", BAD, x -> x.apart(h, h, 1));
            no(s, "needs to oneself", BAD, x -> x.needs(h, h, 1));
            no(s, "forget to oneself", BAD, x -> x.forget(h, h, 1));
        }
    }

    private static void refusedLands() {
        Supplier<BlindPost> s = EdgeTest::busy;
        Supplier<BlindPost> f = EdgeTest::full;
        says("hand: what 0 .. 3");
        no(s, "hand(0, 4)", BAD, x -> x.hand(0, 4));
        no(s, "hand(0, -1)", BAD, x -> x.hand(0, -1));
        says("mark: BAD: also KIND 0; UNLIKE");
        no(s, "mark(0, 0)", BAD, x -> x.mark(0, 0));
        no(s, "mark(0, 6)", BAD, x -> x.mark(0, 6));
        no(s, "mark(0, -1)", BAD, x -> x.mark(0, -1));
        no(s, "BAD ahead of UNLIKE", BAD, x -> x.mark(1, 0));
        found(s, "mark(0, 1)", UNLIKE, x -> x.mark(0, 1));
        found(s, "mark(1, 4)", UNLIKE, x -> x.mark(1, 4));
        found(s, "mark(3, 5)", UNLIKE, x -> x.mark(3, 5));
        says("teach: (1), or not (0)");
        no(s, "teach(0, 0, 2)", BAD, x -> x.teach(0, 0, 2));
        no(s, "teach(0, 0, -1)", BAD, x -> x.teach(0, 0, -1));
        says("meet: BAD: also alike; FULL");
        no(s, "meet(0, 0, 0)", BAD, x -> x.meet(0, 0, 0));
        no(s, "meet(0, 1, 8)", BAD, x -> x.meet(0, 1, 8));
        no(s, "meet(0, 1, -1)", BAD, x -> x.meet(0, 1, -1));
        no(f, "meet a seventeenth time", FULL, x -> x.meet(0, 1, 0));
        no(f, "BAD ahead of FULL: alike", BAD, x -> x.meet(6, 6, 0));
        no(f, "BAD ahead of FULL: the hour", BAD, x -> x.meet(0, 1, 8));
        no(f, "BAD ahead of FULL: no hand", BAD, x -> x.meet(0, 7, 0));
        says("off: 0 to how many there are");
        no(s, "off(9) of 8", BAD, x -> x.off(9));
        no(s, "off(-1)", BAD, x -> x.off(-1));
        no(f, "off(17) of 16", BAD, x -> x.off(17));
        no(EdgeTest::fresh, "off(1) of none", BAD, x -> x.off(1));
        says("keep: BAD; STATE: no HANDS");
        for (int k : new int[] {-1, 3, MIN, MAX}) {
            no(s, "keep(" + k + ")", BAD, x -> x.keep(k));
            no(s, "on(" + k + ")", BAD, x -> x.on(k));
            no(EdgeTest::fresh, "BAD ahead of STATE: keep(" + k + ")", BAD, x -> x.keep(k));
        }
        no(EdgeTest::fresh, "keep(0) of no hands", STATE, x -> x.keep(0));
        no(EdgeTest::late, "keep(2) of no hands", STATE, x -> x.keep(2));
        says("on: BAD; NOTHING");
        found(s, "on(0)", NOTHING, x -> x.on(0));
        found(EdgeTest::fresh, "on(2)", NOTHING, x -> x.on(2));
    }

    private static void refusedLetters() {
        Supplier<BlindPost> s = EdgeTest::busy;
        Supplier<BlindPost> f = EdgeTest::full;
        says("send: BAD; STATE: one does not WRITE to that one so; FULL. (FULL last.)");
        no(s, "who reads does not know it", STATE, x -> x.send(0, 1, 1));
        no(s, "who sends does not know it", STATE, x -> x.send(1, 0, 1));
        no(s, "one of two is not known", STATE, x -> x.send(0, 6, 5));
        no(f, "a fifth one", FULL, x -> x.send(0, 6, 1));
        no(f, "STATE ahead of FULL", STATE, x -> x.send(0, 6, 4));
        no(f, "BAD ahead of STATE and FULL", BAD, x -> x.send(1, 1, 1));
        no(f, "BAD ahead of FULL", BAD, x -> x.send(0, 6, 32));
        says("give: BAD: below 0, no HAND; BEYOND: no such LETTER; STATE: it can't be. (STATE last.)");
        no(s, "give(-1, 3)", BAD, x -> x.give(-1, 3));
        no(s, "give(MIN, 3)", BAD, x -> x.give(MIN, 3));
        no(s, "BAD ahead of BEYOND", BAD, x -> x.give(3, 7));
        no(s, "BAD ahead of STATE", BAD, x -> x.give(1, -1));
        found(s, "give(3, 3)", BEYOND, x -> x.give(3, 3));
        found(s, "give(MAX, 3)", BEYOND, x -> x.give(MAX, 3));
        found(f, "give(4, 3)", BEYOND, x -> x.give(4, 3));
        no(s, "to one whom one does not meet now", STATE, x -> x.give(0, 1));
        no(s, "what is there goes nowhere", STATE, x -> x.give(1, 5));
        no(s, "to who has it", STATE, x -> x.give(0, 2));
        says("hours: n (0 .. 20); BAD; FULL: above 99");
        no(s, "hours(21)", BAD, x -> x.hours(21));
        no(s, "hours(-1)", BAD, x -> x.hours(-1));
        no(s, "hours(MAX)", BAD, x -> x.hours(MAX));
        no(f, "hours(1) at 99", FULL, x -> x.hours(1));
        no(f, "BAD ahead of FULL", BAD, x -> x.hours(21));
        no(EdgeTest::late, "hours(20) at 99", FULL, x -> x.hours(20));
        says("where, hands, back: BAD: below 0; BEYOND");
        for (int k : new int[] {-1, MIN}) {
            no(s, "where(" + k + ")", BAD, x -> x.where(k));
            no(s, "hands(" + k + ", 0)", BAD, x -> x.hands(k, 0));
            no(s, "back(" + k + ")", BAD, x -> x.back(k));
        }
        for (int k : new int[] {3, 4, MAX}) {
            found(s, "where(" + k + ")", BEYOND, x -> x.where(k));
            found(s, "hands(" + k + ", 0)", BEYOND, x -> x.hands(k, 0));
            found(s, "back(" + k + ")", BEYOND, x -> x.back(k));
        }
        no(s, "hands: BAD ahead of BEYOND", BAD, x -> x.hands(3, 6));
        found(EdgeTest::fresh, "where(0) of none", BEYOND, x -> x.where(0));
        found(EdgeTest::fresh, "hands(0, 0) of none", BEYOND, x -> x.hands(0, 0));
        found(EdgeTest::fresh, "back(0) of none", BEYOND, x -> x.back(0));
        says("back: STATE: it was not given. (STATE last.)");
        no(s, "back(2)", STATE, x -> x.back(2));
    }

    private static void refusedReadersAndDays() {
        Supplier<BlindPost> s = EdgeTest::busy;
        says("reader, readers: NOTHING; SIZE: not even; UNLIKE: no set, neither 1 nor 0");
        found(s, "reader of none", NOTHING, x -> x.reader(5));
        found(s, "readers of none", NOTHING, x -> x.readers(5));
        found(s, "SIZE ahead of UNLIKE: reader", SIZE, x -> x.reader(2));
        found(s, "SIZE ahead of UNLIKE: readers", SIZE, x -> x.readers(2));
        found(s, "neither 1 nor 0: reader", UNLIKE, x -> x.reader(3));
        found(s, "neither 1 nor 0: readers", UNLIKE, x -> x.readers(3));
        says("knows: NOTHING; UNLIKE");
        found(s, "knows of none", NOTHING, x -> x.knows(5));
        found(s, "40 and 32 are no TONGUES", UNLIKE, x -> x.knows(4));
        found(s, "128 is no TONGUES", UNLIKE, x -> x.knows(2));
        says("days: n (1 .. 60); a seed (1 .. 2147483646); BAD; STATE: no HANDS; FULL. (FULL last.)");
        for (int n : new int[] {0, 61, -1, MIN, MAX}) {
            no(s, "days(" + n + ", 1)", BAD, x -> x.days(n, 1));
        }
        for (int seed : new int[] {0, MAX, -1, MIN}) {
            no(s, "days(1, " + seed + ")", BAD, x -> x.days(1, seed));
        }
        no(EdgeTest::late, "BAD ahead of STATE and FULL", BAD, x -> x.days(61, 1));
        no(EdgeTest::late, "STATE ahead of FULL", STATE, x -> x.days(1, 1));
        no(EdgeTest::fresh, "days(1, 1) of no hands", STATE, x -> x.days(1, 1));
        no(EdgeTest::full, "days(1, 1) at 99", FULL, x -> x.days(1, 1));
        no(EdgeTest::full, "BAD ahead of FULL", BAD, x -> x.days(1, 0));
        says("count, findings: BAD");
        for (int what : new int[] {-1, 9, MIN, MAX}) {
            no(s, "count(" + what + ")", BAD, x -> x.count(what));
        }
        for (int finding : new int[] {0, 6, -1, MIN, MAX}) {
            no(s, "findings(" + finding + ")", BAD, x -> x.findings(finding));
        }
    }

    /** Calls that answer NONE change nothing, nor do those that only tell: but for asked(), here told by nobody. */
    private static void askingChangesNothing() {
        Supplier<BlindPost> s = EdgeTest::busy;
        says("NONE (as an answer: a ROW that would come anew stays)");
        Supplier<BlindPost> apart = () -> {
            BlindPost x = landOf("h0 h0 h01234 h01234");
            x.send(0, 1, 1);
            rowOf(x, 0, 7, 8);
            x.at(0, 1);
            return x;
        };
        no(apart, "way without any", NONE, x -> x.way(0, 1, 1, 0));
        no(apart, "way without any, no ROW there", NONE, x -> x.way(0, 1, 1, 5));
        no(apart, "BAD ahead of NONE", BAD, x -> x.way(0, 1, 1, 6));
        no(apart, "soon without any", NONE, x -> x.soon(0, 1, 1, 0));
        no(apart, "tongue without any", NONE, x -> x.tongue(0, 1, 0));
        no(apart, "parts without any", NONE, x -> x.parts(0, 1, 1, 0));
        no(apart, "forget without any", NONE, x -> x.forget(0, 1, 1));
        no(() -> landOf("h01234"), "best: all KNOW all", NONE, x -> x.best());
        no(apart, "fault without any", NONE, x -> x.fault(0));
        says("What the latest lay(), at(), .. told: no other call tells, and none that only tells changes the LAND");
        no(s, "fault", 4, x -> x.fault(1));
        no(s, "mark", 1, x -> x.mark(1, 1));
        no(s, "may", 1, x -> x.may(1, 31));
        no(s, "meets", 64, x -> x.meets(3, 3));
        no(s, "soon", 4, x -> x.soon(0, 6, 1, 0));
        no(s, "parts", 11, x -> x.parts(0, 6, 11, 0));
        no(s, "apart", 2, x -> x.apart(0, 6, 1));
        no(s, "needs", 32, x -> x.needs(0, 6, 9));
        no(s, "reach", 112, x -> x.reach(0, 0));
        no(s, "worth", 0, x -> x.worth(0));
        no(s, "upper", 9, x -> (int) x.upper());
        no(s, "lower", 10, x -> (int) x.lower());
        no(s, "count", 7, x -> x.count(0));
        no(s, "finding", SIZE, x -> x.finding());
        no(s, "findings", 1, x -> x.findings(SIZE));
        no(s, "off none", 0, x -> x.off(8));
        no(s, "no hours", 11, x -> x.hours(0));
    }

    // ---- 1 rows, texts, lands

    private static void newObjects() {
        says("No ROWS, TEXTS, HANDS; HOUR 0.");
        BlindPost other = busy();
        BlindPost x = new BlindPost();
        for (int what = 0; what <= 8; what++) {
            due("count(" + what + ")", x.count(what), 0);
        }
        due("asked()", x.asked(), 0);
        due("finding()", x.finding(), 0);
        for (int f = 1; f <= 5; f++) {
            due("findings(" + f + ")", x.findings(f), 0);
        }
        for (int r = 0; r <= 5; r++) {
            due("at(" + r + ", 0)", x.at(r, 0), FINDING);
            due("its finding", x.finding(), NOTHING);
        }
        for (int t = 0; t <= 3; t++) {
            due("fault(" + t + ")", x.fault(t), FINDING);
            due("its finding", x.finding(), NOTHING);
        }
        for (int k = 0; k <= 2; k++) {
            due("on(" + k + ")", x.on(k), FINDING);
            due("its finding", x.finding(), NOTHING);
        }
        due("finding of another object", other.finding(), SIZE);
        due("findings of another object", other.findings(NOTHING), 0);
    }

    private static void callsOfAnObject() {
        says("An object is used for at most 512 calls after it has been made");
        BlindPost x = new BlindPost();
        for (int call = 1; call < MOST_CALLS; call++) {
            x.at(0, 0);
        }
        due("call 512: findings(1)", x.findings(NOTHING), MOST_CALLS - 1);
        x = new BlindPost();
        x.row(0, 1);
        for (int call = 2; call < MOST_CALLS; call++) {
            x.lay(0, 0, call);
        }
        due("call 512: asked()", x.asked(), MOST_CALLS - 2);
        String text = "h01c2h01m010m120";
        x = landOf(text);
        for (int call = text.length() + 3; call < MOST_CALLS; call++) {
            due("call " + call + ": best()", x.best(), 2);
        }
        due("call 512: digest()", x.digest(), landOf(text).digest());
    }

    private static void rowsOfInts() {
        says("A ROW is there with n ints 0: n. ROWS 0 .. 5 are rows of 0 to 40 ints");
        BlindPost x = new BlindPost();
        for (int r = 0; r <= 5; r++) {
            for (int n : new int[] {40, 0, 1, 39}) {
                due("row(" + r + ", " + n + ")", x.row(r, n), n);
                due("place n", x.lay(r, n, 1), FINDING);
                due("place n - 1", x.lay(r, n - 1, 1), n == 0 ? FINDING : 1);
            }
            due("ROWS that are there", x.count(6), r + 1);
        }
        int[] zeros = new int[40];
        for (int i = 0; i < 39; i++) {
            x.lay(2, i, i - 99);
        }
        x.row(2, 2);
        dueRow(x, "two ints anew", 2, 0, 0);
        x.row(2, 40);
        dueRow(x, "forty ints anew", 2, zeros);

        says("Place i of a ROW is v: what it was, told by asked(): 1.");
        due("the first place", told(x, x.lay(2, 0, MIN)), 0);
        due("the last place", told(x, x.lay(2, 39, MAX)), 0);
        due("the least int", told(x, x.at(2, 0)), MIN);
        due("the greatest int", told(x, x.at(2, 39)), MAX);
        due("it was the least int", told(x, x.lay(2, 0, -1)), MIN);
        due("it was the greatest int", told(x, x.lay(2, 39, 0)), MAX);
        due("the place beside it", told(x, x.at(2, 38)), 0);
        due("the same place of another ROW", told(x, x.at(3, 38)), 1);

        says("A ROW is missing: 1.");
        x.row(0, 0);
        for (int r = 0; r <= 5; r++) {
            due("tear(" + r + ")", x.tear(r), 1);
            due("it is missing", x.at(r, 0), FINDING);
            due("so NOTHING", x.finding(), NOTHING);
            due("ROWS left", x.count(6), 5 - r);
        }
        x.row(2, 40);
        dueRow(x, "a torn ROW that is there again", 2, zeros);
    }

    private static void copiesOfRows() {
        says("n places of a ROW come to those of another one (perhaps itself), as if taken ahead: 1.");
        BlindPost x = new BlindPost();
        rowOf(x, 0, 1, 2, 3);
        x.row(5, 40);
        due("to the last places", x.copy(0, 0, 5, 37, 3), 1);
        due("the last but three", told(x, x.at(5, 36)), 0);
        due("the last but two", told(x, x.at(5, 37)), 1);
        due("the last", told(x, x.at(5, 39)), 3);
        x.row(4, 40);
        due("all forty", x.copy(5, 0, 4, 0, 40), 1);
        due("the last of forty", told(x, x.at(4, 39)), 3);
        due("one up in itself", x.copy(0, 0, 0, 1, 2), 1);
        dueRow(x, "one up", 0, 1, 1, 2);
        due("one down in itself", x.copy(0, 1, 0, 0, 2), 1);
        dueRow(x, "one down", 0, 1, 2, 2);
        due("all on itself", x.copy(0, 0, 0, 0, 3), 1);
        dueRow(x, "all on itself", 0, 1, 2, 2);
        due("forty and one", x.copy(5, 0, 4, 0, 41), FINDING);
        says("with n 0, too, if i or j is below 0 or above the size");
        due("none from the size on", x.copy(0, 3, 5, 0, 0), 1);
        due("none to the size", x.copy(5, 0, 0, 3, 0), 1);
        x.row(1, 0);
        due("none of none", x.copy(1, 0, 1, 0, 0), 1);
        dueRow(x, "none came", 0, 1, 2, 2);
    }

    private static int meanOf(int... values) {
        BlindPost x = new BlindPost();
        rowOf(x, 3, values);
        return told(x, x.mean(3));
    }

    private static void meansOfRows() {
        says("The mean of a ROW's ints, cut, told by asked(): 1.");
        int[] forty = new int[40];
        due("of forty 0", meanOf(forty), 0);
        Arrays.fill(forty, MAX);
        due("of forty greatest", meanOf(forty), MAX);
        forty[39] = MAX - 1;
        due("of forty greatest but one", meanOf(forty), MAX - 1);
        Arrays.fill(forty, MIN);
        due("of forty least", meanOf(forty), MIN);
        forty[0] = MIN + 1;
        due("of forty least but one", meanOf(forty), MIN + 1);
        due("of one", meanOf(-7), -7);
        due("5 by 2", meanOf(2, 3), 2);
        due("-5 by 2", meanOf(-2, -3), -2);
        due("-1 by 2", meanOf(MAX, MIN), 0);
        due("-1 by 3", meanOf(0, 0, -1), 0);
        due("2 by 3", meanOf(0, 1, 1), 0);
        due("3 by 3", meanOf(1, 1, 1), 1);
        due("the sum is beyond an int", meanOf(MAX, 1), 1073741824);
    }

    private static void textsOfBytes() {
        says("A TEXT is there with n blanks: n. TEXTS 0 .. 3 rows of 0 to 80 bytes");
        BlindPost x = new BlindPost();
        for (int t = 0; t <= 3; t++) {
            for (int n : new int[] {80, 0, 1, 79}) {
                due("text(" + t + ", " + n + ")", x.text(t, n), n);
                due("byte n", x.put(t, n, 1), FINDING);
                due("its finding", x.finding(), BEYOND);
                due("byte n - 1", x.put(t, n - 1, 1), n == 0 ? FINDING : 1032);
            }
            due("TEXTS that are there", x.count(7), t + 1);
        }
        for (int i = 0; i < 79; i++) {
            x.put(1, i, i);
        }
        x.text(1, 0);
        x.text(1, 80);
        for (int i = 0; i < 80; i++) {
            due("blank anew at " + i, x.put(1, i, 32), 1032);
        }

        says("Byte i of a TEXT is v, cut to a byte (-128 .. 127): what it was, and 1000 more.");
        int[] values = {127, 128, 129, 255, 256, 257, -1, -127, -128, -129, -256, MAX, MIN, MAX - 127, MIN + 128};
        int[] bytes = {127, -128, -127, -1, 0, 1, -1, -127, -128, 127, 0, -1, 0, -128, -128};
        for (int i = 0; i < values.length; i++) {
            due("put(1, 79, " + values[i] + ")", x.put(1, 79, values[i]), i == 0 ? 1032 : 1000 + bytes[i - 1]);
        }
        due("what the last of them was", x.put(1, 79, 0), 1000 - 128);
        due("the byte beside it", x.put(1, 78, 0), 1032);
        due("the same byte of another TEXT", x.put(2, 78, 0), 1001);
    }

    private static void fault(String text, int want) {
        BlindPost x = new BlindPost();
        write(x, 3, text);
        due("fault of \"" + text + "\"", x.fault(3), want);
        due("land of \"" + text + "\"", x.land(3) == STATE ? STATE : 0, want == NONE ? 0 : STATE);
    }

    private static void faultsOfHands() {
        says("blanks (32) ahead, between, behind as many as wanted, none within items");
        fault("", NONE);
        fault(" ", NONE);
        fault(times(" ", 80), NONE);
        fault(times(" ", 79) + "h", NONE);
        fault("h" + times(" ", 79), NONE);
        fault("h0c1m010", NONE);
        fault("  h0   c1  m010   ", NONE);
        fault("h 0", 2);
        fault("h0 1", 3);
        fault("hh m 010", 4);
        fault("hh m0 10", 5);
        fault("hh m01 0", 6);
        for (char sign : new char[] {31, 33, 9, 10, 0, 160}) {
            fault("h" + sign, 1);
        }
        says("(7 at most, none, too; as they come): a letter and, for each TONGUE that one KNOWS, its figure (0 .. 4), rising");
        fault("hcsluyh", NONE);
        fault("h01234", NONE);
        fault("y0c1u2s3l4", NONE);
        fault("h02413", 4);
        fault("h012345", 6);
        fault("h012344", 6);
        fault("h4", NONE);
        fault("h5", 1);
        fault("h00", 2);
        fault("h10", 2);
        fault("h43", 2);
        fault("h/", 1);
        fault("h:", 1);
        fault("0", 0);
        fault("4h", 0);
        for (char letter : "bdgikrtvxzHCSLUYM".toCharArray()) {
            fault("h" + letter, 1);
        }
        says("A FAULT is the first place at which it can't go on so");
        fault("h5 h6 m", 1);
        fault(times(" ", 79) + "q", 79);
        says("a HAND behind a MEETING, an eighth one: its letter");
        for (char letter : "hcsluy".toCharArray()) {
            fault("hh m010 " + letter, 8);
            fault("hh m010" + letter + "01", 7);
            fault("hhhhhhh" + letter, 7);
            fault("h0 h1 h2 h3 h4 h0 h1 " + letter + "0", 21);
            fault("hhhhhhhm017" + letter, 11);
        }
        fault("hhhhhhh" + times(" ", 73), NONE);
    }

    private static void faultsOfMeetings() {
        says("MEETINGS (16 at most, none, too): m (109), two unlike HANDS, an HOUR (0 .. 7), one figure each");
        fault("hh" + times("m017", 16), NONE);
        fault("hh" + times("m017", 16) + times(" ", 14), NONE);
        fault("hhhhhhh m650 m567", NONE);
        fault("hhhhhhh m067", NONE);
        fault("hhhhhhh m760", 9);
        fault("hhhhhhh m670", 10);
        fault("hh m010 m200", 9);
        fault("hh m020", 5);
        fault("hh m000", 5);
        fault("hh m110", 5);
        fault("h m000", 4);
        fault("h m010", 4);
        fault("m", 1);
        fault("m0", 1);
        fault("m010", 1);
        fault("hh m018", 6);
        fault("hh m019", 6);
        fault("hh m01/", 6);
        fault("hh m01:", 6);
        fault("hh m/10", 4);
        fault("hh m:10", 4);
        fault("hh m0/0", 5);
        fault("hh m0:0", 5);
        fault("hh mm", 4);
        fault("hh m0m", 5);
        fault("hh m01m", 6);
        fault("hh m0101", 7);
        fault("hh n010", 3);
        fault("hh l010", 6);
        fault("hh m010 l", 8);
        says("a seventeenth MEETING: its letter");
        fault("hh" + times("m010", 17), 66);
        fault("hh" + times("m010", 16) + "m", 66);
        fault("hh" + times("m010", 16) + times(" ", 13) + "m", 79);
        says("the TEXT's size, if it ends within a MEETING");
        fault("hhm", 3);
        fault("hhm0", 4);
        fault("hhm01", 5);
        fault("hh" + times(" ", 77) + "m", 80);
        fault("hh" + times(" ", 76) + "m0", 80);
        fault("hh" + times(" ", 75) + "m01", 80);
        fault("hh" + times(" ", 74) + "m010", NONE);
        says("what a byte is cut to, is its letter");
        BlindPost x = new BlindPost();
        x.text(0, 1);
        x.put(0, 0, 'h' - 256);
        due("h less 256", x.fault(0), NONE);
        x.put(0, 0, 'h' + 128);
        due("h and 128 more", x.fault(0), 0);
        x.put(0, 0, -'h');
        due("h below 0", x.fault(0), 0);
    }

    private static void landsOfTexts() {
        says("A LAND by a TEXT (anew: HOUR 0, no LETTERS; kept LANDS go): how many HANDS.");
        for (int n = 0; n <= 7; n++) {
            BlindPost x = new BlindPost();
            write(x, n % 4, times("u", n));
            due("land of " + n, x.land(n % 4), n);
            due("HANDS", x.count(0), n);
            due("the first one beyond", x.meets(n, 0), BAD);
            due("the last one", x.meets(n - 1, 0), n == 0 ? BAD : 0);
        }
        BlindPost x = full();
        int rows = x.count(6);
        int asked = x.asked();
        int findings = x.findings(SIZE);
        write(x, 2, "c4");
        due("anew", x.land(2), 1);
        due("HANDS", x.count(0), 1);
        due("MEETINGS", x.count(1), 0);
        due("HOUR 0", x.count(2), 0);
        due("no LETTERS", x.count(3), 0);
        due("none there", x.count(4), 0);
        due("CHILDREN", x.count(5), 1);
        due("ROWS stay", x.count(6), rows);
        due("TEXTS stay", x.count(7), 4);
        due("kept LANDS go", x.count(8), 0);
        for (int k = 0; k <= 2; k++) {
            due("kept LAND " + k, x.on(k), FINDING);
        }
        due("findings stay", x.findings(SIZE), findings);
        due("asked() stays", x.asked(), asked);
        due("KNOWS what the TEXT says", told(x, x.hand(0, 1)), 16);
        due("a LETTER that was", x.where(0), FINDING);
        x.put(2, 1, ' ');
        due("the TEXT goes on by itself", told(x, x.hand(0, 1)), 16);
        x.teach(0, 0, 1);
        due("the same TEXT again", x.land(2), 1);
        due("KNOWS nothing", told(x, x.hand(0, 1)), 0);
        x.text(2, 0);
        due("none, too", x.land(2), 0);
        due("no HANDS", x.count(0), 0);
        due("so none to keep", x.keep(0), STATE);
    }

    private static void factsOfHands() {
        says("0 the KIND, 1 TONGUES that one KNOWS (bits), 2 in how many MEETINGS, 3 how many LETTERS that one has now");
        BlindPost x = landOf("h01234 l01234 c s u y h" + times("m012", 13));
        int[] kinds = {0, 3, 1, 2, 4, 5, 0};
        for (int h = 0; h <= 6; h++) {
            due("KIND of " + h, told(x, x.hand(h, 0)), kinds[h]);
            due("KNOWS " + h, told(x, x.hand(h, 1)), h <= 1 ? 31 : 0);
            due("MEETINGS of " + h, told(x, x.hand(h, 2)), h <= 1 ? 13 : 0);
            due("LETTERS of " + h, told(x, x.hand(h, 3)), 0);
        }
        for (int m = 13; m < 16; m++) {
            x.meet(1, 0, 2);
        }
        due("sixteen MEETINGS", told(x, x.hand(1, 2)), 16);
        for (int k = 0; k < 4; k++) {
            x.send(0, 1, 31);
        }
        due("four LETTERS", told(x, x.hand(0, 3)), 4);
        x.hours(2);
        for (int k = 3; k >= 0; k--) {
            due("give(" + k + ", 1)", x.give(k, 1), 1);
            due("LETTERS left", told(x, x.hand(0, 3)), k);
        }
        due("(on their way): none that came there", told(x, x.hand(1, 3)), 0);
        x.back(2);
        due("one has it anew", told(x, x.hand(0, 3)), 1);
    }

    private static void marksOfHands() {
        says("a CHILD (MUTE, too) how many TONGUES that one KNOWS; a SPY how many TONGUES that one does not KNOW");
        BlindPost x = landOf("c u y y01234 c01234 u01234");
        due("a CHILD of none", x.mark(0, 1), 0);
        due("a MUTE of none", x.mark(1, 1), 0);
        due("a SPY of none", x.mark(2, 5), 5);
        due("a SPY of all", x.mark(3, 5), 0);
        due("a CHILD of all", x.mark(4, 1), 5);
        due("a MUTE of all", x.mark(5, 1), 5);
        says("a SCHOLAR TONGUES (bits) of which that one MAY carry none");
        int[] bars = {3, 7, 14, 28, 24};
        BlindPost scholar = landOf("s");
        due("a SCHOLAR of none", scholar.mark(0, 2), 0);
        for (int t = 0; t <= 4; t++) {
            scholar.teach(0, t, 1);
            due("a SCHOLAR of " + t, scholar.mark(0, 2), bars[t]);
            scholar.teach(0, t, 0);
        }
        scholar.teach(0, 0, 1);
        scholar.teach(0, 4, 1);
        due("a SCHOLAR of 0 and 4", scholar.mark(0, 2), 27);
        scholar.teach(0, 2, 1);
        due("a SCHOLAR of 0, 2, 4", scholar.mark(0, 2), 31);
        says("a MUTE how many MEET that one in any HOUR");
        x = landOf("u h h h h h h m010");
        due("one", x.mark(0, 4), 1);
        x.meet(1, 0, 0);
        x.meet(0, 1, 7);
        due("one, however often", x.mark(0, 4), 1);
        for (int y = 2; y <= 6; y++) {
            x.meet(y, 0, y);
            due("and " + y, x.mark(0, 4), y);
        }
        x.off(0);
        due("none", x.mark(0, 4), 0);
        says("What a HAND that IS of a KIND tells");
        x = landOf("h c s l u y");
        int[] is = {0, 1, 2, 3, 1 + 4 * 8, 3 + 5 * 8};
        for (int h = 0; h <= 5; h++) {
            for (int kind = 1; kind <= 5; kind++) {
                boolean isSo = is[h] % 8 == kind || is[h] / 8 == kind;
                due("mark(" + h + ", " + kind + ")", x.mark(h, kind) == FINDING ? 0 : 1, isSo ? 1 : 0);
            }
        }
    }

    private static void marksOfLearners() {
        says("a LEARNER (SPY, too) how many LETTERS that one gave on (not as who sent it; one that it has yet, or that came to it at last, is none)");
        BlindPost x = landOf("h01234 l h01234 y l01234 m010 m121 m020 m030 m321 m402");
        for (int k = 0; k < 4; k++) {
            x.send(0, 2, 1 << k);
        }
        due("none yet", x.mark(1, 3), 0);
        for (int k = 0; k < 3; k++) {
            x.give(k, 1);
        }
        x.give(3, 3);
        due("those that it has yet", x.mark(1, 3), 0);
        due("that a SPY has yet", x.mark(3, 3), 0);
        x.hours(1);
        for (int k = 0; k < 3; k++) {
            x.give(k, 2);
            due("gave on", x.mark(1, 3), k + 1);
        }
        x.give(3, 2);
        due("a SPY gave on", x.mark(3, 3), 1);
        x.back(0);
        due("undone", x.mark(1, 3), 2);
        x.back(0);
        due("undone again", x.mark(1, 3), 2);
        x = landOf("h0 l0 l h0 h0 m010 m121 m232 m142");
        x.send(1, 3, 1);
        x.hours(1);
        x.give(0, 2);
        due("not as who sent it", x.mark(1, 3), 0);
        x.hours(1);
        x.give(0, 3);
        due("not as who sent it, either when it is there", x.mark(1, 3), 0);
        due("who gave it on between", x.mark(2, 3), 1);
        x.send(0, 1, 1);
        x.hours(6);
        x.give(1, 1);
        due("that came to it at last", x.mark(1, 3), 0);
        x = landOf("h0 l l l l h0 h m010 m121 m232 m343 m454");
        for (int k = 0; k < 4; k++) {
            x.send(0, 5, 1);
        }
        for (int h = 1; h <= 5; h++) {
            for (int k = 0; k < 4; k++) {
                due("give(" + k + ", " + h + ")", x.give(k, h), h == 5 ? 1 : 0);
            }
            x.hours(1);
        }
        for (int h = 1; h <= 4; h++) {
            due("all four, by " + h, x.mark(h, 3), 4);
        }
    }

    private static void teachingHands() {
        says("One KNOWS a TONGUE (1), or not (0): whether one did (1, 0).");
        BlindPost x = landOf("h h h h h h h");
        for (int t = 0; t <= 4; t++) {
            due("not known", x.teach(6, t, 0), 0);
            due("taught", x.teach(6, t, 1), 0);
            due("taught again", x.teach(6, t, 1), 1);
            due("known", told(x, x.hand(6, 1)), (2 << t) - 1);
        }
        for (int t = 0; t <= 4; t++) {
            due("forgets", x.teach(6, t, 0), 1);
            due("forgets again", x.teach(6, t, 0), 0);
            due("known", told(x, x.hand(6, 1)), 31 & -(2 << t));
        }
        due("the first one", x.teach(0, 4, 1), 0);
        due("known by the one beside", told(x, x.hand(1, 1)), 0);
    }

    private static void meetingsOfHands() {
        says("A MEETING more: its number. BAD: also alike; FULL.");
        BlindPost x = landOf("h h h h h h h");
        for (int m = 0; m < 16; m++) {
            due("meeting " + m, x.meet(m % 7, (m + 1) % 7, m % 8), m);
        }
        due("a seventeenth one", x.meet(0, 1, 0), FULL);
        says("MEETINGS from number n on (0 to how many there are: none then) are no more: how many.");
        due("off(16)", x.off(16), 0);
        due("off(15)", x.off(15), 1);
        due("number 15 anew", x.meet(6, 0, 7), 15);
        due("full again", x.meet(6, 0, 7), FULL);
        due("off(1)", x.off(1), 15);
        due("the first one is left", x.meets(0, 0), 2);
        due("the second one is not", x.meets(1, 1), 0);
        due("off(0)", x.off(0), 1);
        due("none is left", x.meets(0, 0), 0);
        due("off(0) of none", x.off(0), 0);
        due("number 0 anew", x.meet(5, 4, 7), 0);
        x.meet(4, 5, 7);
        x.off(1);
        due("what the first one says stays", x.meets(4, 7), 32);
        says("Who MEET one in an HOUR (0 .. 99; bits); the HOUR modulo 8 is its");
        x = landOf("h h h h h h h m060 m167 m263 m363 m463 m653");
        for (int hour = 0; hour <= 99; hour++) {
            int at = hour % 8;
            due("meets(6, " + hour + ")", x.meets(6, hour), at == 0 ? 1 : at == 7 ? 2 : at == 3 ? 60 : 0);
        }
        due("meets(0, 96)", x.meets(0, 96), 64);
        due("meets(5, 99)", x.meets(5, 99), 64);
        says("(whichever is told first)");
        due("told first", x.meets(0, 0), 64);
        due("told last", x.meets(5, 3), 64);
    }

    private static void carriersOfLetters() {
        says("One MAY carry a LETTER in a set of TONGUES (not empty), if one KNOWS none of these");
        BlindPost x = landOf("h14 l14 c14 s14 u14 y14 s");
        int[] bars = {18, 18, 0, 31, 0, 0, 0};
        for (int h = 0; h <= 6; h++) {
            for (int set = 1; set <= 31; set++) {
                due("may(" + h + ", " + set + ")", x.may(h, set), (set & bars[h]) == 0 ? 1 : 0);
            }
        }
        says("a SCHOLAR if also none is next by number to one that the SCHOLAR KNOWS");
        for (int t = 0; t <= 4; t++) {
            BlindPost one = landOf("s" + t);
            for (int u = 0; u <= 4; u++) {
                due("a SCHOLAR of " + t + " in " + u, one.may(0, 1 << u), Math.abs(t - u) <= 1 ? 0 : 1);
            }
        }
    }

    // ---- 2 letters

    private static void sendingLetters() {
        says("A LETTER is sent: its number. (4 at most)");
        BlindPost x = landOf("h01234 h h h h h h01234 m060");
        int[] sets = {31, 1, 16, 30};
        for (int k = 0; k < 4; k++) {
            due("send " + k, x.send(k % 2 * 6, 6 - k % 2 * 6, sets[k]), k);
            due("LETTERS", x.count(3), k + 1);
        }
        due("a fifth one", x.send(0, 6, 1), FULL);
        due("one is there", x.give(0, 6), 1);
        due("that one counts, too", x.send(0, 6, 1), FULL);
        due("how many are there", x.count(4), 1);
        says("One WRITES to another one in TONGUES that both KNOW all");
        x = landOf("h012 h123");
        for (int set = 1; set <= 31; set++) {
            x = landOf("h012 h123");
            due("send(0, 1, " + set + ")", x.send(0, 1, set), (set & ~6) == 0 ? 0 : STATE);
        }
        says("(sent: when it was)");
        x = landOf("h0 h0 m010");
        hoursTo(x, 99);
        due("sent in the last HOUR", x.send(1, 0, 1), 0);
        due("with who sent it", x.where(0), 1);
        due("in HOUR 99", x.asked(), 99);
    }

    private static void givingLetters() {
        says("it is given in an HOUR by who has it to one who MEETS that one then, and MAY carry it, or to whom it is: 1, if it is to whom it is, else 0");
        BlindPost x = landOf("h0 c0 s1 h0 l y0 h0 m010 m020 m030 m040 m050 m060");
        int[] takes = {STATE, 0, STATE, STATE, 0, 0, 1};
        for (int h = 0; h <= 6; h++) {
            x.send(0, 6, 1);
            due("give(0, " + h + ")", x.give(0, h), takes[h]);
            x.land(0);
        }
        x.send(0, 6, 1);
        hoursTo(x, 95);
        due("one HOUR too soon", x.give(0, 6), STATE);
        x.hours(1);
        due("HOUR 96 modulo 8", x.give(0, 6), 1);
        x.back(0);
        x.hours(1);
        due("one HOUR too late", x.give(0, 6), STATE);
        says("to whom it is, also if that one has forgotten it since");
        x = landOf("h0 h0 m010");
        x.send(0, 1, 1);
        x.teach(1, 0, 0);
        x.teach(0, 0, 0);
        due("give", x.give(0, 1), 1);
        says("To each it comes once at most");
        x = landOf("c0 h h h0 m010 m121 m022 m013");
        x.send(0, 3, 1);
        x.give(0, 1);
        x.hours(1);
        x.give(0, 2);
        x.hours(1);
        due("to who sent it", x.give(0, 0), STATE);
        x.hours(7);
        due("to one who had it", x.give(0, 1), STATE);
        x.back(0);
        due("undone: to one who had it then", x.give(0, 2), 0);
        says("in an HOUR each LETTER is given once");
        x = landOf("h0 h h0 m010 m120");
        x.send(0, 2, 1);
        x.send(0, 2, 1);
        due("in the HOUR in which it was sent", x.give(0, 1), 0);
        due("on in the same HOUR", x.give(0, 2), STATE);
        due("another one in the same HOUR", x.give(1, 1), 0);
        x.hours(7);
        due("in an HOUR in which they don't meet", x.give(0, 2), STATE);
        x.hours(1);
        due("in another HOUR", x.give(0, 2), 1);
    }

    private static void mutesBetween() {
        says("A MUTE between takes it from who sends it alone (one to whom it is takes it from anybody, a MUTE, too)");
        BlindPost x = landOf("h0 u0 u h h0 u0 m010 m121 m031 m322 m132 m353 m153");
        x.send(0, 4, 1);
        due("a MUTE from who sends it", x.give(0, 1), 0);
        x.hours(1);
        due("a MUTE from a MUTE", x.give(0, 2), STATE);
        x.hours(1);
        due("another one from a MUTE", x.give(0, 3), 0);
        x.hours(8);
        due("a MUTE from another one", x.give(0, 2), STATE);
        x.send(0, 5, 1);
        x.hours(6);
        due("on by a MUTE", x.give(1, 1), 0);
        x.hours(3);
        due("a MUTE to whom it is from a MUTE", x.give(1, 5), 1);
        x.send(0, 5, 1);
        x.hours(6);
        due("on by another one", x.give(2, 3), 0);
        x.hours(2);
        due("a MUTE to whom it is from another one", x.give(2, 5), 1);
    }

    private static void learnersAndOthers() {
        says("A LEARNER (SPY, too) who gives one on KNOWS its TONGUES then.");
        BlindPost x = landOf("h0134 l2 y1 h0134 c m010 m121 m232 m013 m042 m412");
        x.send(0, 3, 25);
        x.give(0, 1);
        due("who has it yet", told(x, x.hand(1, 1)), 4);
        x.hours(1);
        due("to one who can't take it now: STATE", x.give(0, 4), STATE);
        due("who could not give it", told(x, x.hand(1, 1)), 4);
        x.give(0, 2);
        due("who gave it", told(x, x.hand(1, 1)), 29);
        x.hours(1);
        x.give(0, 3);
        due("a SPY who gave it", told(x, x.hand(2, 1)), 27);
        due("to whom it is", told(x, x.hand(3, 1)), 27);
        x.back(0);
        due("what a LEARNER KNOWS stays", told(x, x.hand(2, 1)), 27);
        x.back(0);
        due("also of one further ahead", told(x, x.hand(1, 1)), 29);
        x.send(0, 3, 1);
        x.hours(1);
        due("a LEARNER who KNOWS it may not now", x.give(1, 1), STATE);
        x = landOf("h0 c h0 s h m010 m121 m032 m343 m424");
        x.send(0, 2, 1);
        x.give(0, 1);
        x.hours(1);
        x.give(0, 2);
        due("a CHILD who gave it learns nothing", told(x, x.hand(1, 1)), 0);
        x.send(0, 2, 1);
        x.hours(1);
        x.give(1, 3);
        x.hours(1);
        x.give(1, 4);
        x.hours(1);
        due("it is there", x.give(1, 2), 1);
        due("a SCHOLAR who gave it learns nothing", told(x, x.hand(3, 1)), 0);
        due("a HAND who gave it learns nothing", told(x, x.hand(4, 1)), 0);
    }

    private static void hoursThatGoBy() {
        says("n (0 .. 20) HOURS go by: the HOUR. BAD; FULL: above 99.");
        BlindPost x = new BlindPost();
        due("hours(0)", x.hours(0), 0);
        due("hours(1)", x.hours(1), 1);
        due("hours(20)", x.hours(20), 21);
        due("hours(19)", x.hours(19), 40);
        hoursTo(x, 80);
        due("one too many", x.hours(20), FULL);
        due("the HOUR stays", x.count(2), 80);
        due("just as many", x.hours(19), 99);
        due("none at 99", x.hours(0), 99);
        due("one at 99", x.hours(1), FULL);
        due("twenty at 99", x.hours(20), FULL);
    }

    private static void wayOfLetters() {
        says("Who has a LETTER; in which HOUR it came there by asked()");
        BlindPost x = landOf("h0 h h h h h h0 m010 m121 m232 m343 m454 m565");
        hoursTo(x, 80);
        for (int k = 0; k < 4; k++) {
            due("send " + k, x.send(0, 6, 1), k);
        }
        for (int h = 1; h <= 6; h++) {
            due("where(3)", x.where(3), h - 1);
            due("when", x.asked(), h == 1 ? 80 : 78 + h);
            due("give(3, " + h + ")", x.give(3, h), h == 6 ? 1 : 0);
            due("it is with", x.where(3), h);
            due("since this HOUR", x.asked(), 79 + h);
            due("another one stays", x.where(2), 0);
            x.hours(1);
        }
        says("Hands of a LETTER so far, one behind the other, come to a ROW (anew): how many.");
        due("one hand", x.hands(0, 0), 1);
        dueRow(x, "one hand", 0, 0);
        x.row(5, 40);
        due("all seven", x.hands(3, 5), 7);
        dueRow(x, "all seven", 5, 0, 1, 2, 3, 4, 5, 6);
        says("The last giving of a LETTER is undone (who has it then, and can give it anew, also in this HOUR)");
        for (int h = 5; h >= 0; h--) {
            due("back(3)", x.back(3), h);
            due("it is with", x.where(3), h);
            due("since", x.asked(), h == 0 ? 80 : 79 + h);
            due("hands", x.hands(3, 5), h + 1);
        }
        due("it was not given", x.back(3), STATE);
        due("as it was sent", x.where(3), 0);
        says("can give it anew, also in this HOUR");
        x = landOf("h0 h h0 m010 m020 m120");
        x.send(0, 2, 1);
        x.give(0, 1);
        due("undone", x.back(0), 0);
        due("given anew in this HOUR", x.give(0, 2), 1);
        due("undone anew", x.back(0), 0);
        due("to the same one", x.give(0, 1), 0);
        due("but once in it", x.give(0, 2), STATE);
    }

    private static void landsKept() {
        says("The LAND (what HANDS KNOW, MEETINGS, LETTERS, the HOUR) is kept in a place (0 .. 2): the HOUR.");
        BlindPost x = landOf("h0 l h0 m010 m121");
        x.send(0, 2, 1);
        due("keep(0)", x.keep(0), 0);
        x.give(0, 1);
        x.hours(1);
        due("keep(2)", x.keep(2), 1);
        due("kept LANDS", x.count(8), 2);
        x.give(0, 2);
        x.meet(0, 2, 7);
        x.send(2, 0, 1);
        hoursTo(x, 99);
        due("keep(1) in the last HOUR", x.keep(1), 99);
        due("kept LANDS, all", x.count(8), 3);
        says("The LAND is as it was kept: the HOUR.");
        int[] at = {0, 99, 1};
        int[] letters = {1, 2, 1};
        int[] meetings = {2, 3, 2};
        int[] known = {0, 1, 0};
        int[] holder = {0, 2, 1};
        int[] since = {0, 1, 0};
        for (int k : new int[] {2, 0, 1, 1, 0, 2}) {
            due("on(" + k + ")", x.on(k), at[k]);
            due("the HOUR", x.count(2), at[k]);
            due("LETTERS", x.count(3), letters[k]);
            due("MEETINGS", x.count(1), meetings[k]);
            due("in HOUR 7", x.meets(0, 7), k == 1 ? 4 : 0);
            due("the LEARNER KNOWS", told(x, x.hand(1, 1)), known[k]);
            due("who has the LETTER", x.where(0), holder[k]);
            due("since", x.asked(), since[k]);
            x.teach(0, 3, 1);
            x.off(0);
            x.back(0);
            x.hours(0);
        }
        due("places are kept yet", x.count(8), 3);
        x.on(0);
        due("on in between: KNOWS what was kept", told(x, x.hand(0, 1)), 1);
        x.teach(0, 4, 1);
        due("kept anew", x.keep(0), 0);
        due("as many as before", x.count(8), 3);
        x.on(1);
        x.on(0);
        due("as it was kept last", told(x, x.hand(0, 1)), 17);
        lettersKept();
        says("ROWS and TEXTS are no LAND");
        x.row(3, 2);
        x.on(1);
        due("ROWS", x.count(6), 1);
        due("TEXTS", x.count(7), 1);
    }

    private static void lettersKept() {
        says("The LAND is as it was kept: its LETTERS, too, that went another way since, or were others");
        BlindPost x = landOf("h01 h h01 h01 m010 m030 m121 m017 m023 m204");
        x.send(0, 2, 1);
        x.keep(0);
        x.give(0, 1);
        x.hours(1);
        x.give(0, 2);
        x.send(2, 0, 2);
        x.keep(1);
        x.on(0);
        x.send(0, 3, 3);
        x.hours(7);
        x.give(0, 1);
        x.hours(7);
        due("who has it on another way", x.where(0), 1);
        due("on(1)", x.on(1), 1);
        due("hands", x.hands(0, 0), 3);
        dueRow(x, "hands as they were kept", 0, 0, 1, 2);
        due("it is there", x.where(0), 2);
        due("since", x.asked(), 1);
        due("undone", x.back(0), 1);
        due("with the one ahead since", x.where(0), 1);
        due("that HOUR", x.asked(), 0);
        due("the other LETTER is with who sent it", x.where(1), 2);
        due("since it was sent", x.asked(), 1);
        x.hours(3);
        due("and is for whom it was", x.give(1, 0), 1);
        x.text(0, 0);
        due("all of it", x.digest(), folded(4, 6, 4, 2, 1, 0, 1, 1, 2,
            0, 3, 5, 0, 0, 0, 3, 1, 0, 3, 3, 0, 0, 3, 1, 0,
            0, 1, 0, 0, 3, 0, 1, 2, 1, 0, 1, 7, 0, 2, 3, 2, 0, 4,
            2, 1, 0, 1, 0, 2, 2, 0,
            0, 1, -1, 3, 0, 1, 2, -1, -1, -1, -1, -1, 0, -1, -1, -1));
    }

    // ---- 3 how soon (nobody learning on the way)

    /** HAND 0 stands between, too; and it is nobody who has a LETTER of others. */
    private static void overTheFirstHand() {
        says("HANDS 0, 1, ..: over the first one");
        BlindPost x = landOf("c01 h01 h01 h m100 m021 m032 m327");
        due("soon", x.soon(1, 2, 1, 0), 2);
        due("way", x.way(1, 2, 1, 0), 1);
        dueRow(x, "way", 0, 1, 0, 2);
        due("needs", x.needs(1, 2, 1), 1);
        due("apart", x.apart(1, 2, 1), 1);
        due("reach", x.reach(1, 0), 5);
        due("worth", x.worth(0), 4);
        due("soon, from nobody but who sends it", x.soon(1, 3, 1, 1), 10);
        x.off(2);
        due("who has no LETTER gives none", x.soon(1, 2, 1, 1), 9);
        x = landOf("h0 h0 h0 h m100 m021 m131 m321");
        due("the first one MAY not: soon", x.soon(1, 2, 1, 0), 10);
        due("way", x.way(1, 2, 1, 0), 1);
        dueRow(x, "way", 0, 1, 3, 2);
        due("needs", x.needs(1, 2, 1), 8);
        x.off(2);
        due("way of none else", x.way(1, 2, 1, 0), NONE);
        due("forget", x.forget(1, 2, 1), 1);
        due("who", x.asked(), 1);
        due("forget in what it does not KNOW", x.forget(1, 2, 2), 0);
        due("who", x.asked(), 0);
        says("pairs from the first HAND alone, to the first HAND alone");
        x = landOf("h4 u h h4 m010 m120 m230");
        due("from it", x.fewest(), 1);
        due("in", x.asked(), 16);
        x = landOf("h3 h u h3 m010 m120 m230");
        due("to it", x.fewest(), 1);
        due("in", x.asked(), 8);
    }

    private static void twoAtOnce() {
        says("who has it and the next one MEETING then: two at once");
        BlindPost x = landOf("h h h h m010 m021 m121 m232");
        due("to whom it is, by two", x.soon(0, 2, 1, 0), 2);
        due("to one between, by two", x.soon(0, 3, 1, 0), 3);
        says("A FAULT of a TEXT: whatever was read ahead of it");
        x = new BlindPost();
        write(x, 0, "hhm01");
        write(x, 1, "h0");
        write(x, 2, "h0h1m0");
        write(x, 3, "1");
        int[] faults = {5, NONE, 6, 0};
        for (int t : new int[] {0, 1, 2, 1, 3, 0, 3, 2, 0, 1}) {
            due("fault(" + t + ")", x.fault(t), faults[t]);
        }
        due("land(1) behind a FAULT", x.land(1), 1);
        due("land(0) behind a LAND", x.land(0), STATE);
        due("a LAND behind a FAULT has no more HANDS", x.count(0), 1);
    }

    private static void soonestLetters() {
        says("In how many HOURS from an HOUR (0 .. 99) on a LETTER can get there (the one in which it comes counts)");
        BlindPost x = landOf("h h m013");
        int[] waits = {4, 3, 2, 1, 8, 7, 6, 5};
        for (int hour = 0; hour <= 99; hour++) {
            due("soon(0, 1, 31, " + hour + ")", x.soon(0, 1, 31, hour), waits[hour % 8]);
        }
        x = landOf("h h m012");
        for (int hour = 90; hour <= 99; hour++) {
            due("(none above HOUR 99) soon(1, 0, 1, " + hour + ")", x.soon(1, 0, 1, hour), hour <= 90 ? 1 : hour <= 98 ? 99 - hour : NONE);
        }
        says("40 at most, none above HOUR 99");
        x = landOf("hhhhhhh m010 m127 m236 m345 m454 m563");
        due("36 HOURS from HOUR 0", x.soon(0, 6, 1, 0), 36);
        for (int hour = 57; hour <= 72; hour++) {
            int wait = (64 - hour + 8) % 8 + 36;
            boolean isLate = wait > 40 || hour + wait - 1 > 99;
            due("soon(0, 6, 1, " + hour + ")", x.soon(0, 6, 1, hour), isLate ? NONE : wait);
        }
        due("40 HOURS", x.soon(0, 6, 1, 4), 40);
        due("41 HOURS", x.soon(0, 6, 1, 3), NONE);
        due("to HOUR 99", x.soon(0, 6, 1, 60), 40);
        due("to HOUR 99 in 36", x.soon(0, 6, 1, 64), 36);
        due("beyond HOUR 99", x.soon(0, 6, 1, 65), NONE);
        says("(one HOUR each, rising), each who has it and the next one MEETING then");
        x = landOf("h h h m010 m120");
        due("not both in one HOUR", x.soon(0, 2, 1, 0), 9);
        due("just in time", x.soon(0, 2, 1, 88), 9);
        due("not in time", x.soon(0, 2, 1, 89), NONE);
        due("the first step's HOUR may pass", x.soon(0, 2, 1, 1), 16);
        says("whether one WRITES so or not");
        x = landOf("h h0 h m010 m120 m027");
        due("in what nobody at the ends KNOWS", x.soon(0, 2, 2, 0), 8);
        x.off(2);
        due("in what the one between KNOWS", x.soon(0, 2, 1, 0), NONE);
        due("in another one", x.soon(0, 2, 30, 0), 9);
        says("all between such as MAY carry it (a MUTE just behind the first)");
        x = landOf("h u h h m011 m122 m020 m230");
        due("over the MUTE first", x.soon(0, 3, 1, 1), 8);
        due("without the MUTE as soon", x.soon(0, 3, 1, 0), 9);
        x = landOf("h h u h m010 m121 m232");
        due("the MUTE second", x.soon(0, 3, 1, 0), NONE);
        due("to the MUTE", x.soon(0, 2, 1, 0), 2);
        due("from the other side", x.soon(3, 0, 1, 2), 15);
    }

    private static void shortestWays() {
        says("The fewest hands by which it can get there: how many between; the first such WAY (by numbers) comes to a ROW (anew).");
        BlindPost x = landOf("hhhhhhh m010 m121 m232 m343 m454 m565");
        for (int y = 1; y <= 6; y++) {
            due("way to " + y, x.way(0, y, 31, 5), y - 1);
            dueRow(x, "way to " + y, 5, Arrays.copyOf(new int[] {0, 1, 2, 3, 4, 5, 6}, y + 1));
        }
        x.row(0, 40);
        due("way back", x.way(6, 4, 1, 0), 1);
        dueRow(x, "way back", 0, 6, 5, 4);
        x = landOf("hhhhhh m040 m450 m030 m350 m021 m252 m015");
        due("of three the first", x.way(0, 5, 1, 1), 1);
        dueRow(x, "of three the first", 1, 0, 2, 5);
        x.teach(2, 1, 1);
        due("one MAY not", x.way(0, 5, 2, 1), 1);
        dueRow(x, "the next one", 1, 0, 3, 5);
        due("one MAY in another", x.way(0, 5, 29, 1), 1);
        dueRow(x, "the first one", 1, 0, 2, 5);
        x = landOf("hhhhhhh m010 m120 m260 m030 m340 m460 m051 m141");
        due("by numbers, hand by hand", x.way(0, 6, 1, 2), 2);
        dueRow(x, "by numbers, hand by hand", 2, 0, 1, 2, 6);
        x.off(5);
        x.meet(4, 6, 0);
        x.meet(0, 5, 7);
        x.meet(5, 6, 7);
        due("the fewest ahead of the first", x.way(0, 6, 1, 2), 1);
        dueRow(x, "the fewest ahead of the first", 2, 0, 5, 6);
        says("unlike HANDS: not over who sends it, nor over whom it is for");
        x = landOf("c c h m010 m120");
        due("way(1, 0)", x.way(1, 0, 1, 3), 0);
        dueRow(x, "way(1, 0)", 3, 1, 0);
        says("a MUTE just behind the first");
        x = landOf("h u u h h m010 m120 m230 m130 m040 m430");
        due("over a MUTE", x.way(0, 3, 1, 3), 1);
        dueRow(x, "over a MUTE", 3, 0, 1, 3);
        due("to a MUTE over a MUTE", x.way(0, 2, 1, 3), 1);
        dueRow(x, "to a MUTE over a MUTE", 3, 0, 1, 2);
        due("not over two MUTES", x.way(4, 1, 1, 3), 1);
        dueRow(x, "over who is none", 3, 4, 0, 1);
        x.off(3);
        due("over two MUTES alone", x.way(0, 3, 1, 3), NONE);
        dueRow(x, "the ROW stays", 3, 4, 0, 1);
    }

    private static void tonguesToWrite() {
        says("In which TONGUE (one) in which one WRITES to another one it gets there soonest (the first); how soon by asked().");
        BlindPost x = landOf("h01234 h0123 h01234 h012 h01 h0 h m010 m120 m031 m321 m042 m422");
        due("where all tongues but one are barred", x.tongue(0, 2, 0), 4);
        due("HOURS", x.asked(), 9);
        due("later the same", x.tongue(0, 2, 1), 3);
        due("HOURS", x.asked(), 9);
        due("of three the first that is soonest", x.tongue(0, 2, 2), 2);
        due("HOURS", x.asked(), 9);
        due("met at once: the first TONGUE", x.tongue(0, 1, 8), 0);
        due("HOURS", x.asked(), 1);
        due("NONE: none in common", x.tongue(0, 6, 0), NONE);
        due("NONE: not met", x.tongue(0, 5, 0), NONE);
        due("asked() stays", x.asked(), 1);
        due("the last HOUR", x.tongue(0, 4, 98), 0);
        due("HOURS", x.asked(), 1);
        due("beyond the last HOUR", x.tongue(0, 4, 99), NONE);
        says("Cut in parts, one for each TONGUE of a set, each by itself as soon as can be: in how many HOURS all are there.");
        due("one part", x.parts(0, 2, 16, 0), 9);
        due("all parts", x.parts(0, 2, 28, 0), 11);
        due("NONE: one does not get there", x.parts(0, 2, 29, 0), NONE);
        due("at once by nobody", x.soon(0, 2, 31, 0), NONE);
        x.meet(0, 2, 7);
        due("all five", x.parts(0, 2, 31, 0), 8);
        due("the last HOUR", x.parts(0, 2, 31, 95), 1);
        due("beyond it", x.parts(0, 2, 31, 96), NONE);
        due("whether one WRITES so or not", x.parts(6, 0, 1, 0), NONE);
        x = landOf("h h m010");
        due("in TONGUES that nobody KNOWS", x.parts(0, 1, 31, 0), 1);
    }

    private static void waysApart() {
        says("How many WAYS at most no two of which have a HAND in common but the first and the last one (of no hands between: that counts once).");
        BlindPost x = landOf("hhhhhhh");
        due("none", x.apart(0, 6, 1), 0);
        for (int h = 1; h <= 5; h++) {
            x.meet(0, h, h);
            due("half a WAY over " + h, x.apart(0, 6, 31), h - 1);
            x.meet(h, 6, 0);
            due("a WAY over " + h, x.apart(0, 6, 31), h);
        }
        x.meet(0, 6, 0);
        due("of no hands between", x.apart(0, 6, 31), 6);
        x.meet(6, 0, 1);
        due("that counts once", x.apart(0, 6, 31), 6);
        x.meet(0, 6, 2);
        due("however often", x.apart(6, 0, 31), 6);
        x.teach(5, 4, 1);
        due("one MAY not", x.apart(0, 6, 16), 5);
        due("one MAY", x.apart(0, 6, 15), 6);
        due("from one between", x.apart(1, 2, 1), 2);
        x = landOf("h h m010 m013 m105");
        due("of two HANDS", x.apart(0, 1, 1), 1);
        x = landOf("hhhhhhh m010 m120 m260 m030 m340 m460 m150 m540");
        due("not over one twice", x.apart(0, 6, 1), 2);
        x.off(4);
        due("the half of one", x.apart(0, 6, 1), 1);
        x = landOf("h h u h h m010 m120 m240 m030 m340");
        due("a MUTE second", x.apart(0, 4, 1), 1);
        due("a MUTE just behind the first, and another one", x.apart(1, 4, 1), 2);
        x = landOf("h h0 h h0 m010 m120 m030 m320");
        due("none MAY", x.apart(0, 2, 1), 0);
        due("all MAY", x.apart(0, 2, 2), 2);
    }

    private static void neededHands() {
        says("Of those who are on each WAY (bits; both ends aside; without any WAY: 0).");
        BlindPost x = landOf("hhhhhhh m010 m120 m230 m340 m450 m560");
        due("all five", x.needs(0, 6, 31), 62);
        due("both ends aside", x.needs(6, 0, 31), 62);
        due("from one between", x.needs(2, 4, 1), 8);
        due("of no hands between", x.needs(2, 3, 1), 0);
        x.teach(3, 0, 1);
        due("without any WAY", x.needs(0, 6, 1), 0);
        due("in another TONGUE", x.needs(0, 6, 2), 62);
        due("as far as there is one", x.needs(0, 3, 1), 6);
        x.meet(1, 4, 0);
        due("around some", x.needs(0, 6, 2), 50);
        due("around some, in what one of them KNOWS", x.needs(0, 6, 1), 50);
        x.meet(0, 6, 0);
        due("around all", x.needs(0, 6, 1), 0);
        x = landOf("h u h h h m010 m120 m230 m340 m310 m040");
        due("a MUTE first is on none of the others", x.needs(0, 3, 1), 0);
        x.off(4);
        due("a MUTE on each", x.needs(0, 3, 1), 6);
        due("a MUTE last but one", x.needs(3, 0, 1), 0);
        due("so there is no WAY back", x.way(3, 0, 1, 0), NONE);
        due("to the MUTE", x.needs(3, 1, 1), 4);
        due("unmet", landOf("h h h").needs(0, 2, 1), 0);
    }

    private static void forgottenTongues() {
        says("The fewest TONGUES that HANDS between have to forget together so that there is a WAY; who has to (bits) by asked().");
        BlindPost x = landOf("h h01234 h01234 h01234 h01234 h01234 h m010 m120 m230 m340 m450 m560");
        due("five HANDS, five TONGUES", x.forget(0, 6, 31), 25);
        due("who", x.asked(), 62);
        due("one TONGUE", x.forget(0, 6, 4), 5);
        due("who", x.asked(), 62);
        due("one HAND", x.forget(0, 2, 31), 5);
        due("who", x.asked(), 2);
        due("none", x.forget(0, 1, 31), 0);
        due("who", x.asked(), 0);
        says("NONE: not even so.");
        x.off(5);
        due("unmet", x.forget(0, 6, 31), NONE);
        due("asked() stays", x.asked(), 0);
        says("(a SCHOLAR all that bars, CHILDREN, SPIES none)");
        x = landOf("h s01234 c01234 y01234 u01234 l01234 h m010 m160 m020 m260");
        int[] bars = {2, 3, 3, 3, 2};
        for (int t = 0; t <= 4; t++) {
            due("over a CHILD, a SPY, a MUTE", x.forget(0, 6, 1 << t), 0);
            x.off(2);
            due("a SCHOLAR in " + t, x.forget(0, 6, 1 << t), bars[t]);
            due("who", x.asked(), 2);
            x.meet(0, 2 + t % 3, 0);
            x.meet(2 + t % 3, 6, 0);
        }
        x.off(0);
        x.meet(0, 5, 0);
        x.meet(5, 6, 0);
        due("a LEARNER", x.forget(0, 6, 21), 3);
        due("who", x.asked(), 32);
        x.meet(0, 4, 0);
        x.meet(4, 5, 0);
        x.meet(4, 1, 0);
        due("a MUTE none", x.forget(0, 1, 21), 0);
        due("nobody", x.asked(), 0);
        x = landOf("h h u h m010 m120 m230");
        due("a MUTE second, whatever is forgotten", x.forget(0, 3, 1), NONE);
        due("a MUTE just behind the first", x.forget(1, 3, 1), 0);
    }

    private static void waysOfOnePrice() {
        says("of alike ways the first by numbers, the one of fewer hands first");
        BlindPost x = landOf("h h0 h0 h0 h h h m010 m160 m020 m260 m030 m360");
        due("the first by numbers", x.forget(0, 6, 1), 1);
        due("who", x.asked(), 2);
        x.off(0);
        x.meet(0, 1, 0);
        x.meet(1, 4, 0);
        x.meet(4, 6, 0);
        x.meet(0, 3, 0);
        x.meet(3, 6, 0);
        due("the one of fewer hands ahead of the first", x.forget(0, 6, 1), 1);
        due("who", x.asked(), 8);
        x.teach(3, 1, 1);
        due("the cheaper one ahead of the one of fewer hands", x.forget(0, 6, 3), 1);
        due("who", x.asked(), 2);
    }

    // ---- 4 who reaches whom

    private static void reachedHands() {
        says("To whom one can WRITE in a TONGUE so that there is a WAY (bits).");
        BlindPost x = landOf("c04 c04 c04 c04 c04 c04 c04 m010 m120 m230 m340 m450 m560");
        for (int h = 0; h <= 6; h++) {
            due("of all seven, to all but " + h, x.reach(h, 4), 127 & ~(1 << h));
            due("in the first TONGUE, too", x.reach(h, 0), 127 & ~(1 << h));
            due("in what nobody KNOWS", x.reach(h, 1), 0);
        }
        x.teach(3, 4, 0);
        due("not to one who does not KNOW it", x.reach(0, 4), 118);
        due("not by one who does not KNOW it", x.reach(3, 4), 0);
        x.off(5);
        due("not to one who is not met", x.reach(0, 4), 54);
        due("not by one who is not met", x.reach(6, 4), 0);
        says("the pairs (who sends, who reads) that KNOW a TONGUE in common");
        x = landOf("c0 c0 c0 c0 c0 c0 c0");
        due("all are CUT OFF", x.cutOff(), 42);
        due("of all", x.asked(), 42);
        due("upper", x.upper(), 0);
        due("lower", x.lower(), 1);
        for (int h = 1; h <= 6; h++) {
            x.meet(h - 1, h, h);
            due("CUT OFF yet", x.cutOff(), 42 - h * (h + 1));
            due("of all", x.asked(), 42);
        }
        due("upper", x.upper(), 1);
        due("lower", x.lower(), 1);
        x = landOf("h0 h1 h2 h3 h4 h h m010");
        due("none KNOW a TONGUE in common", x.cutOff(), 0);
        due("of none", x.asked(), 0);
        due("upper (0, if there is none)", x.upper(), 0);
        due("lower (1, if there is none)", x.lower(), 1);
        says("in no such TONGUE (one alone) there is a WAY");
        x = landOf("h01 h0 h01 m010 m120");
        due("in one of two", x.cutOff(), 0);
        x.teach(1, 1, 1);
        due("in neither", x.cutOff(), 2);
        due("of six", x.asked(), 6);
        due("upper of 4 / 6", x.upper(), 2);
        due("lower of 4 / 6", x.lower(), 3);
        x.teach(2, 0, 0);
        x.teach(2, 1, 0);
        x.teach(2, 4, 1);
        due("in a TONGUE that they don't have in common: no pair", x.cutOff(), 0);
        due("of two", x.asked(), 2);
    }

    private static void partsOfPairs() {
        says("as a part of all, in lowest terms");
        BlindPost x = landOf("c0 c0 c0 c0 c0 c0 c0 m010 m230 m450");
        due("upper of 6 / 42", x.upper(), 1);
        due("lower of 6 / 42", x.lower(), 7);
        x = landOf("c0 c0 c0 c0 c0 c0 c0 m010 m120 m230");
        due("upper of 12 / 42", x.upper(), 2);
        due("lower of 12 / 42", x.lower(), 7);
        x = landOf("h0 h0 u u h0 m020 m230 m310 m040");
        due("upper of 2 / 6", x.upper(), 1);
        due("lower of 2 / 6", x.lower(), 3);
        x = landOf("h0 u h h0 m010 m120 m230");
        due("upper of 1 / 2", x.upper(), 1);
        due("lower of 1 / 2", x.lower(), 2);
    }

    private static void taughtHands() {
        says("How many pairs more (fewer: below 0) would be CUT OFF, if one were taught a TONGUE");
        BlindPost x = landOf("h0 h h0 m010 m120");
        due("more", told(x, x.taught(1, 0)), 2);
        due("as it was", x.cutOff(), 0);
        due("as many", told(x, x.taught(1, 4)), 0);
        due("one KNOWS it", told(x, x.taught(2, 0)), 0);
        x = landOf("h0 h0 h01 m010 m120");
        due("fewer", told(x, x.taught(0, 1)), -2);
        due("nobody KNOWS more", told(x, x.hand(0, 1)), 1);
        due("in what nobody else KNOWS", told(x, x.taught(0, 4)), 0);
        x = landOf("c0 c0 c0 c0 c0 c0 h m060 m160 m260 m360 m460 m560");
        due("all in one", x.cutOff(), 0);
        due("how many at once", told(x, x.taught(6, 0)), 30);
        x.teach(6, 0, 1);
        due("CUT OFF by one", x.cutOff(), 30);
        x.teach(6, 0, 0);
        says("Whom and what to teach (10 times who, and the TONGUE; the first), so that fewest pairs are CUT OFF; how many by asked().");
        due("nothing helps, nothing harms: the first", x.best(), 1);
        due("how many", x.asked(), 0);
        x = landOf("h01234 h01234 h01234 h01234 h01234 h01234 h0123");
        due("the last one", x.best(), 64);
        due("how many", x.asked(), 42);
        x.teach(6, 4, 1);
        due("NONE: all KNOW all", x.best(), NONE);
        due("asked() stays", x.asked(), 42);
        x.teach(0, 0, 0);
        due("the first one", x.best(), 0);
        due("how many", x.asked(), 42);
        due("no HANDS", new BlindPost().best(), NONE);
        x = landOf("h0 h0 h0 h0 m010 m120 m230");
        due("two by one each", x.cutOff(), 6);
        due("none by one alone: the first", x.best(), 1);
        due("how many", x.asked(), 6);
        x.teach(3, 4, 1);
        due("one pair by this", x.best(), 4);
        due("how many", x.asked(), 4);
    }

    private static void worthOfHands() {
        says("How many LETTERS, of all pairs and single TONGUES in which one WRITES to the other one, need one on each WAY of theirs.");
        BlindPost x = landOf("c01234 c01234 c01234 h m030 m130 m230");
        due("all pairs in all TONGUES", x.worth(3), 30);
        due("an end", x.worth(0), 0);
        x.teach(3, 4, 1);
        due("in all but one, and none to that one", x.worth(3), 24);
        x.meet(0, 1, 0);
        due("but those that meet", x.worth(3), 16);
        due("one who leads to nobody else", x.worth(0), 0);
        x = landOf("h0 u h h0 m010 m120 m230");
        due("there, not back", x.worth(1), 1);
        due("there, not back, by the other one", x.worth(2), 1);
        due("unmet: no WAY, none", landOf("h0 h h0").worth(1), 0);
        due("one HAND", landOf("h0").worth(0), 0);
    }

    private static void fewestTongues() {
        says("The fewest TONGUES (a set) such that all who KNOW a TONGUE in common, and are not CUT OFF, can WRITE so in one of these; which (bits; the least)");
        BlindPost x = landOf("h01234 h0 h1 h2 h3 h4 m010 m020 m030 m040 m050");
        due("all five", x.fewest(), 5);
        due("which", x.asked(), 31);
        x.off(4);
        due("not for those that are CUT OFF", x.fewest(), 4);
        due("which", x.asked(), 15);
        x.off(0);
        due("all are CUT OFF", x.fewest(), 0);
        due("which", x.asked(), 0);
        x.meet(0, 5, 0);
        due("the last TONGUE alone", x.fewest(), 1);
        due("which", x.asked(), 16);
        x.teach(5, 3, 1);
        due("the least", x.fewest(), 1);
        due("which", x.asked(), 8);
        x = landOf("h012 h01 h02 h12 m010 m020 m030");
        due("the least of three sets of two", x.fewest(), 2);
        due("which", x.asked(), 3);
        due("no HANDS", new BlindPost().fewest(), 0);
        x = landOf("h34 h34 m010");
        due("one of two", x.fewest(), 1);
        due("which", x.asked(), 8);
        x = landOf("h01 h0 h01 m010 m120");
        due("of two in common one has a WAY", x.fewest(), 2);
        due("which", x.asked(), 3);
        x = landOf("h014 h14 h04 m010 m020");
        due("fewest ahead of least", x.fewest(), 1);
        due("which", x.asked(), 16);
    }

    // ---- 5 who reads

    private static int readerOf(int hands, int... values) {
        BlindPost x = landOf(times("h", hands));
        rowOf(x, 5, values);
        return x.reader(5);
    }

    private static int readersOf(int hands, int... values) {
        BlindPost x = landOf(times("h", hands));
        rowOf(x, 0, values);
        return x.readers(0);
    }

    private static int[] pairs(int n, int set, int wasRead) {
        int[] values = new int[2 * n];
        for (int i = 0; i < n; i++) {
            values[2 * i] = set;
            values[2 * i + 1] = wasRead;
        }
        return values;
    }

    private static void readersOfLetters() {
        says("From a ROW of pairs (none, too): who alone can be the one who reads all that one carries (bits).");
        for (int n = 0; n <= 7; n++) {
            int all = (1 << n) - 1;
            due("none, of " + n, readerOf(n), all);
            due("all, read", readerOf(n, all, 1), all);
            due("all, not read", readerOf(n, all, 0), 0);
            due("nobody, not read", readerOf(n, 0, 0), all);
            due("nobody, read", readerOf(n, 0, 1), 0);
            due("no set, read", readerOf(n, all + 1, 1), FINDING);
            due("no set, not read", readerOf(n, all + 1, 0), FINDING);
            due("two: none, of " + n, readersOf(n), n * (n - 1) / 2);
            due("two: all, read", readersOf(n, all, 1), n * (n - 1) / 2);
            due("two: all, not read", readersOf(n, all, 0), 0);
            due("two: no set", readersOf(n, all + 1, 1), FINDING);
        }
        for (int h = 0; h <= 6; h++) {
            due("one, read", readerOf(7, 1 << h, 1), 1 << h);
            due("one, not read", readerOf(7, 1 << h, 0), 127 & ~(1 << h));
            due("two: one, read", readersOf(7, 1 << h, 1), 6);
            due("two: one, not read", readersOf(7, 1 << h, 0), 15);
        }
        due("twenty pairs", readerOf(7, pairs(20, 5, 1)), 5);
        int[] twenty = pairs(20, 5, 1);
        twenty[38] = 64;
        due("the last of twenty", readerOf(7, twenty), 0);
        due("two: the last of twenty", readersOf(7, twenty), 2);
        twenty[39] = 2;
        due("the last of twenty is none", readerOf(7, twenty), FINDING);
        due("two: the last of twenty is none", readersOf(7, twenty), FINDING);
        says("SIZE: not even; UNLIKE: no set, neither 1 nor 0");
        for (int value : new int[] {-1, 8, MIN, MAX}) {
            due("no set of three", readerOf(3, 1, 1, value, 0), FINDING);
            due("two: no set of three", readersOf(3, 1, 1, value, 0), FINDING);
        }
        for (int value : new int[] {-1, 2, MIN, MAX, 256}) {
            due("neither 1 nor 0", readerOf(3, 1, 1, 1, value), FINDING);
            due("two: neither 1 nor 0", readersOf(3, 1, 1, 1, value), FINDING);
        }
        due("one number", readerOf(3, 1), FINDING);
        due("three numbers", readersOf(3, 1, 1, 1), FINDING);
        due("39 numbers", readerOf(3, Arrays.copyOf(pairs(20, 1, 1), 39)), FINDING);
        says("if two read: how many pairs of HANDS it can be (a LETTER is read, if one of both is among its hands)");
        due("both are among them", readersOf(3, 3, 1, 4, 0), 1);
        due("one of both", readersOf(3, 1, 1, 2, 1), 1);
        due("the other one alone", readersOf(3, 1, 0), 1);
        due("nobody is left", readersOf(3, 3, 0), 0);
        due("each of three", readersOf(3, 1, 1, 2, 1, 4, 1), 0);
    }

    private static int knownAfter(BlindPost x, int... values) {
        rowOf(x, 0, values);
        return x.knows(0);
    }

    private static void knownTongues() {
        says("From a ROW of TONGUES (1 .. 31 each): how many sets; the greatest (bits) by asked().");
        BlindPost x = new BlindPost();
        due("none carried", knownAfter(x), 32);
        due("greatest", x.asked(), 31);
        for (int t = 0; t <= 4; t++) {
            due("one TONGUE", knownAfter(x, 1 << t), 16);
            due("greatest", x.asked(), 31 & ~(1 << t));
            due("all but one", knownAfter(x, 31 & ~(1 << t)), 2);
            due("greatest", x.asked(), 1 << t);
        }
        due("all at once", knownAfter(x, 31), 1);
        due("greatest", x.asked(), 0);
        due("all one by one", knownAfter(x, 16, 8, 4, 2, 1), 1);
        due("forty", knownAfter(x, pairs(20, 1, 2)), 8);
        due("greatest", x.asked(), 28);
        for (int value : new int[] {0, 32, -1, MIN, MAX}) {
            due("not 1 .. 31: " + value, knownAfter(x, 1, value), FINDING);
            due("its finding", x.finding(), UNLIKE);
            due("ahead, too", knownAfter(x, value, 1), FINDING);
        }
        x.row(0, 40);
        due("forty 0", x.knows(0), FINDING);
    }

    // ---- 6 days

    private static void daysByLots() {
        says("n (1 .. 60) HOURS go by truly, one by one; HOUR 99 would be passed");
        BlindPost x = landOf("h");
        due("one day", x.days(1, 1), 0);
        due("the HOUR", x.count(2), 1);
        due("sixty days", x.days(60, LAST_SEED), 0);
        due("the HOUR", x.count(2), 61);
        due("one too many", x.days(39, 1), FULL);
        due("the HOUR stays", x.count(2), 61);
        due("to the last HOUR", x.days(38, 1), 0);
        due("the HOUR", x.count(2), 99);
        due("one more", x.days(1, 1), FULL);
        due("sixty more", x.days(60, 1), FULL);
        says("without any it stays (no number)");
        x = landOf("h0 h h h0 m011 m021 m132 m232");
        x.send(0, 3, 1);
        due("to be given in HOUR 1 first", x.days(1, 1), 0);
        due("it stays", x.where(0), 0);
        due("by the first number, 48271, to the second of two", x.days(1, 1), 0);
        due("it is with", x.where(0), 2);
        due("since", x.asked(), 1);
        x.land(0);
        x.send(0, 3, 1);
        due("in three days", x.days(3, 1), 1);
        due("hands", x.hands(0, 0), 3);
        dueRow(x, "no number for HOUR 0", 0, 0, 2, 3);
        says("a number comes from the one ahead by 48271 times it modulo 2147483647");
        x = landOf("c01234 c c c c c c01234 m010m020m030m040m050m161m261m361m461m561");
        int[] seeds = {1, 2, 44488, 44489, 1234567890, LAST_SEED - 1, LAST_SEED};
        for (int seed : seeds) {
            x.land(0);
            for (int k = 0; k < 4; k++) {
                x.send(0, 6, 1 << k);
            }
            due("all four come", x.days(2, seed), 4);
            long number = seed;
            for (int k = 0; k < 4; k++) {
                number = number * 48271 % 2147483647;
                x.hands(k, 1);
                due("seed " + seed + ", letter " + k, told(x, x.at(1, 1)), 1 + number % 5);
            }
        }
    }

    private static void daysOfLetters() {
        says("for each LETTER on its way: not for those that came there, nor those given in this HOUR already");
        BlindPost x = landOf("h0 h h h0 m010 m020 m030 m131 m231");
        x.send(0, 3, 1);
        x.send(0, 3, 1);
        x.send(0, 3, 1);
        x.give(0, 3);
        x.give(1, 1);
        due("only the third one goes", x.days(1, 1), 0);
        due("the second one stays", x.where(1), 1);
        due("the third one, by 48271 modulo 3", x.where(2), 2);
        due("one came before, so it does not count", x.count(4), 1);
        due("both come", x.days(1, 1), 2);
        due("all came", x.count(4), 3);
        says("HOUR 99 itself may come, its MEETINGS not yet be");
        x = landOf("h0 h0 m013");
        hoursTo(x, 98);
        x.send(0, 1, 1);
        due("ahead of HOUR 99", x.days(1, 1), 0);
        due("HOUR 99", x.count(2), 99);
        due("in it", x.give(0, 1), 1);
    }

    private static void daysOfKinds() {
        says("of those to whom it can be given the one at it modulo how many there are (the least first) has it then");
        BlindPost x = landOf("h0 h0 s1 l0 u0 y0 h0 m010 m020 m030 m040 m050 m060");
        x.send(0, 6, 1);
        x.days(1, 1);
        due("of MUTE, SPY, to whom it is: 48271 modulo 3 is 1", x.where(0), 5);
        x.land(0);
        x.send(0, 6, 1);
        due("number 96542 modulo 3 is 2", x.days(1, 2), 1);
        x.land(0);
        x.send(0, 6, 1);
        x.days(1, 3);
        due("number 144813 modulo 3 is 0", x.where(0), 4);
        says("A LEARNER who gives one on KNOWS its TONGUES then: in days, too");
        x = landOf("h0 l h0 m010 m121 m102");
        x.send(0, 2, 1);
        x.send(0, 2, 1);
        x.give(1, 1);
        x.back(1);
        due("one goes over the LEARNER, the other one, too", x.days(2, 7), 2);
        due("who KNOWS now", told(x, x.hand(1, 1)), 1);
        x.send(0, 2, 1);
        due("and MAY not", x.days(20, 7), 0);
        due("so it stays", x.where(2), 0);
    }

    // ---- 7 what is told

    private static void toldByAsked() {
        says("What the latest lay(), at(), mean(), hand(), where(), tongue(), forget(), cutOff(), taught(), best(), fewest(), knows() that was not refused (nor NONE) told; 0 before.");
        BlindPost x = new BlindPost();
        due("0 before", x.asked(), 0);
        x.at(0, 0);
        due("0 behind a refused one", x.asked(), 0);
        x.best();
        due("0 behind NONE", x.asked(), 0);
        x = landOf("h01 h0 h01 h m010 m120 m301");
        rowOf(x, 0, 4, 6);
        due("lay: what it was", told(x, x.lay(0, 0, 9)), 4);
        due("at", told(x, x.at(0, 1)), 6);
        due("mean", told(x, x.mean(0)), 7);
        due("hand", told(x, x.hand(2, 1)), 3);
        x.hours(1);
        x.send(0, 2, 2);
        due("where", x.where(0), 0);
        due("where told", x.asked(), 1);
        due("tongue", x.tongue(0, 2, 0), 1);
        due("tongue told", x.asked(), 9);
        due("forget", x.forget(0, 2, 1), 1);
        due("forget told", x.asked(), 2);
        due("cutOff", x.cutOff(), 0);
        due("cutOff told", x.asked(), 6);
        due("taught told", told(x, x.taught(1, 1)), 2);
        due("best", x.best(), 2);
        due("best told", x.asked(), 0);
        due("fewest", x.fewest(), 2);
        due("fewest told", x.asked(), 3);
        x.row(1, 0);
        due("knows", x.knows(1), 32);
        due("knows told", x.asked(), 31);
        due("and is told again", x.asked(), 31);
        x.land(0);
        due("a new LAND leaves it", x.asked(), 31);
    }

    private static void numbersOfThings() {
        says("0 HANDS, 1 MEETINGS, 2 the HOUR, 3 LETTERS, 4 LETTERS that came there, 5 CHILDREN (MUTES, too), 6 ROWS, 7 TEXTS, 8 kept LANDS");
        BlindPost x = landOf("c0 u0 c u c u c" + times("m013", 16));
        for (int r = 0; r <= 5; r++) {
            x.row(r, 0);
        }
        for (int t = 1; t <= 3; t++) {
            x.text(t, 0);
        }
        for (int k = 0; k < 4; k++) {
            x.send(k % 2, 1 - k % 2, 1);
        }
        hoursTo(x, 99);
        for (int k = 0; k < 4; k++) {
            due("came there", x.count(4), k);
            due("give(" + k + ")", x.give(k, 1 - k % 2), 1);
        }
        for (int k = 0; k <= 2; k++) {
            due("keep(" + k + ")", x.keep(k), 99);
        }
        int[] all = {7, 16, 99, 4, 4, 7, 6, 4, 3};
        for (int what = 0; what <= 8; what++) {
            due("all there can be: count(" + what + ")", x.count(what), all[what]);
        }
        due("neither CHILD nor MUTE", landOf("h s l y").count(5), 0);
        due("CHILD and MUTE", landOf("h c s u").count(5), 2);
    }

    private static void findingsThatWere() {
        says("The latest FINDING (0 before any). How often a FINDING (1 .. 5) was answered.");
        BlindPost x = new BlindPost();
        int[] findings = {NOTHING, SIZE, BEYOND, NOUGHT, UNLIKE};
        for (int i = 0; i < findings.length; i++) {
            for (int n = 0; n <= i; n++) {
                due("refused", refusedFor(x, findings[i]), FINDING);
                due("the latest one", x.finding(), findings[i]);
                due("how often", x.findings(findings[i]), n + 1);
            }
        }
        for (int i = 0; i < findings.length; i++) {
            due("how often in all", x.findings(findings[i]), i + 1);
        }
        x.row(9, 0);
        x.keep(0);
        x.row(0, 3);
        due("neither other refusals nor what is done tell", x.finding(), UNLIKE);
        due("nor what asks for one that there is not", x.findings(6), BAD);
        due("the latest one stays", x.finding(), UNLIKE);
    }

    private static int refusedFor(BlindPost x, int finding) {
        x.row(0, 0);
        x.row(1, 2);
        switch (finding) {
            case NOTHING: return x.fault(3);
            case BEYOND: return x.lay(0, 0, 1);
            case UNLIKE: return x.knows(1);
            case NOUGHT: return x.mean(0);
            default: return x.text(0, -1);
        }
    }

    private static long folded(long... values) {
        long h = 17;
        for (long v : values) {
            h = 31 * h + v;
        }
        return h;
    }

    private static void digests() {
        says("h = 17; then h = 31 h + v for each v");
        due("a new object", new BlindPost().digest(),
            folded(0, 0, 0, 0, 0, 0, 0, 0, 0, -1, -1, -1, -1, -1, -1, -1, -1, -1, -1, -1, -1, -1));
        BlindPost x = new BlindPost();
        for (int r = 0; r <= 5; r++) {
            x.row(r, 0);
        }
        for (int t = 0; t <= 3; t++) {
            x.text(t, 0);
        }
        due("sizes 0 are not missing", x.digest(),
            folded(0, 0, 0, 0, 0, 0, 6, 4, 0, -1, -1, -1, 0, 0, 0, 0, 0, 0, 0, 0, 0, 0));
        x = new BlindPost();
        rowOf(x, 5, MIN, MAX, -1);
        x.text(2, 3);
        x.put(2, 0, 128);
        x.put(2, 2, 127);
        due("the least, the greatest", x.digest(), folded(0, 0, 0, 0, 0, 0, 1, 1, 0, -1, -1, -1,
            -1, -1, -1, -1, -1, 3, MIN, MAX, -1, -1, -1, 3, -128, 32, 127, -1));
        says("of a call that tells by asked(): what it tells; asked() stays");
        x = landOf("y4 s4 m106");
        hoursTo(x, 6);
        x.send(0, 1, 16);
        x.give(0, 1);
        x.keep(2);
        x.send(1, 0, 16);
        x.hours(1);
        x.text(0, 0);
        rowOf(x, 0, 9);
        x.lay(0, 0, 8);
        due("told before", x.asked(), 9);
        due("a LAND", x.digest(), folded(2, 1, 7, 2, 1, 0, 1, 1, 1, 5, 16, 1, 0, 2, 16, 1, 1, 1, 0, 6,
            1, 16, 0, 1, 0, 16, 1, -1, -1, 6, 1, 8, -1, -1, -1, -1, -1, 0, -1, -1, -1));
        due("told yet", x.asked(), 9);
        due("the same again", x.digest() == x.digest() ? 1 : 0, 1);
        due("of a full one as of its twin", full().digest() == full().digest() ? 1 : 0, 1);
    }

    public static void main(String[] args) {
        refusedRows();
        refusedCopies();
        refusedTexts();
        refusedHands();
        refusedTongues();
        refusedLands();
        refusedLetters();
        refusedReadersAndDays();
        askingChangesNothing();
        newObjects();
        callsOfAnObject();
        rowsOfInts();
        copiesOfRows();
        meansOfRows();
        textsOfBytes();
        faultsOfHands();
        faultsOfMeetings();
        landsOfTexts();
        factsOfHands();
        marksOfHands();
        marksOfLearners();
        teachingHands();
        meetingsOfHands();
        carriersOfLetters();
        sendingLetters();
        givingLetters();
        mutesBetween();
        learnersAndOthers();
        hoursThatGoBy();
        wayOfLetters();
        landsKept();
        overTheFirstHand();
        twoAtOnce();
        soonestLetters();
        shortestWays();
        tonguesToWrite();
        waysApart();
        neededHands();
        forgottenTongues();
        waysOfOnePrice();
        reachedHands();
        partsOfPairs();
        taughtHands();
        worthOfHands();
        fewestTongues();
        readersOfLetters();
        knownTongues();
        daysByLots();
        daysOfLetters();
        daysOfKinds();
        toldByAsked();
        numbersOfThings();
        findingsThatWere();
        digests();
        System.out.println(wrong == 0 ? checks + " checks hold at the edges" : wrong + " answers are not as due");
        if (wrong != 0) {
            System.exit(1);
        }
    }
}
