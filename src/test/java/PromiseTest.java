import java.util.HashMap;
import java.util.Map;

/** For each promise of the document ordinary inputs, edges and wrong inputs, with answers worked out by hand. */
public final class PromiseTest {
    private static final int BAD = -1, FULL = -2, FINDING = -3, STATE = -4, NONE = -9;
    private static final int NOTHING = 1, BEYOND = 2, UNLIKE = 3, NOUGHT = 4, SIZE = 5;
    private static final int MIN = Integer.MIN_VALUE, MAX = Integer.MAX_VALUE;

    private static int wrong = 0;
    private static String promise = "";
    private static final Map<String, Integer> checks = new HashMap<>();

    private static void due(String call, long got, long want) {
        checks.merge(promise, 1, Integer::sum);
        if (got != want) {
            wrong++;
            System.out.println("promise " + promise + ": " + call + " answered " + got + ", due is " + want);
        }
    }

    private static void dueFinding(BlindPost x, String call, int got, int finding) {
        due(call, got, FINDING);
        due(call + " finding", x.finding(), finding);
    }

    private static void write(BlindPost x, int t, String text) {
        x.text(t, text.length());
        for (int i = 0; i < text.length(); i++) {
            x.put(t, i, text.charAt(i));
        }
    }

    private static BlindPost landOf(String text) {
        BlindPost x = new BlindPost();
        write(x, 0, text);
        if (x.land(0) < 0) {
            wrong++;
            System.out.println("no land: " + text);
        }
        return x;
    }

    private static int faultOf(String text) {
        BlindPost x = new BlindPost();
        write(x, 3, text);
        int fault = x.fault(3);
        due("land of \"" + text + "\" goes with its fault", x.land(3) == STATE ? 1 : 0, fault == NONE ? 0 : 1);
        return fault;
    }

    private static int asked(BlindPost x, int answer) {
        due("answer that tells by asked()", answer, 1);
        return x.asked();
    }

    private static void rowOf(BlindPost x, int r, int... values) {
        x.row(r, values.length);
        for (int i = 0; i < values.length; i++) {
            x.lay(r, i, values[i]);
        }
    }

    private static void dueRow(BlindPost x, String what, int r, int... values) {
        for (int i = 0; i < values.length; i++) {
            due(what + " at " + i, asked(x, x.at(r, i)), values[i]);
        }
        due(what + " ends", x.at(r, values.length), FINDING);
    }

    public static void main(String[] args) {
        newObject();
        rows();
        copies();
        means();
        texts();
        faults();
        lands();
        handsOfLands();
        marks();
        teaching();
        meetings();
        carrying();
        sending();
        giving();
        mutesGiving();
        learning();
        hoursAndWhere();
        handsAndBack();
        keeping();
        soonness();
        waysShort();
        tonguesAndParts();
        apartAndNeeds();
        forgetting();
        reaching();
        teachingCuts();
        worthAndFewest();
        reading();
        lots();
        told();
        parted();
        counted();
        found();
        digested();
        for (int p = 1; p <= 50; p++) {
            if (!checks.containsKey(String.valueOf(p))) {
                wrong++;
                System.out.println("promise " + p + " has no test");
            }
        }
        System.out.println(wrong == 0 ? "all promises hold" : wrong + " answers are not as due");
        if (wrong != 0) {
            System.exit(1);
        }
    }

    private static void newObject() {
        promise = "1";
        BlindPost x = new BlindPost();
        for (int what = 0; what <= 8; what++) {
            due("count " + what, x.count(what), 0);
        }
        due("asked", x.asked(), 0);
        due("finding", x.finding(), 0);
        due("hand", x.hand(0, 0), BAD);
        due("at", x.at(0, 0), FINDING);
        due("fault", x.fault(0), FINDING);
        due("on", x.on(0), FINDING);
        long h = 17;
        for (int i = 0; i < 9; i++) {
            h = 31 * h;
        }
        for (int i = 0; i < 3 + 6 + 4; i++) {
            h = 31 * h - 1;
        }
        due("digest", x.digest(), h);
    }

    private static void rows() {
        promise = "2";
        BlindPost x = new BlindPost();
        due("row(0, 3)", x.row(0, 3), 3);
        due("row(5, 40)", x.row(5, 40), 40);
        due("row(1, 0)", x.row(1, 0), 0);
        due("row(0, 41)", x.row(0, 41), BAD);
        due("row(6, 1)", x.row(6, 1), BAD);
        due("row(-1, -1)", x.row(-1, -1), BAD);
        due("row(0, MAX)", x.row(0, MAX), BAD);
        due("finding before", x.finding(), 0);
        dueFinding(x, "row(0, -1)", x.row(0, -1), SIZE);
        dueFinding(x, "row(0, MIN)", x.row(0, MIN), SIZE);
        x.lay(0, 2, 9);
        dueRow(x, "refused changes nothing", 0, 0, 0, 9);
        x.row(0, 3);
        dueRow(x, "row anew", 0, 0, 0, 0);

        promise = "3";
        x = new BlindPost();
        x.row(2, 2);
        due("lay", asked(x, x.lay(2, 1, -7)), 0);
        due("lay again", asked(x, x.lay(2, 1, MAX)), -7);
        due("lay third", asked(x, x.lay(2, 1, 0)), MAX);
        due("lay(6)", x.lay(6, 0, 0), BAD);
        due("lay(-1)", x.lay(-1, 0, 0), BAD);
        dueFinding(x, "lay(3)", x.lay(3, -1, 0), NOTHING);
        dueFinding(x, "lay at 2", x.lay(2, 2, 0), BEYOND);
        dueFinding(x, "lay at -1", x.lay(2, -1, 0), BEYOND);
        due("asked stays", x.asked(), MAX);

        promise = "4";
        x = new BlindPost();
        x.row(0, 1);
        x.lay(0, 0, 5);
        due("at", asked(x, x.at(0, 0)), 5);
        due("at(-1)", x.at(-1, 0), BAD);
        due("at(6)", x.at(6, 0), BAD);
        dueFinding(x, "at(1)", x.at(1, 0), NOTHING);
        dueFinding(x, "at 1", x.at(0, 1), BEYOND);
        dueFinding(x, "at MIN", x.at(0, MIN), BEYOND);
        dueFinding(x, "at MAX", x.at(0, MAX), BEYOND);

        promise = "5";
        x = new BlindPost();
        x.row(5, 0);
        due("tear", x.tear(5), 1);
        due("no rows", x.count(6), 0);
        dueFinding(x, "tear again", x.tear(5), NOTHING);
        due("tear(6)", x.tear(6), BAD);
        due("tear(-1)", x.tear(-1), BAD);
    }

    private static void copies() {
        promise = "6";
        BlindPost x = new BlindPost();
        rowOf(x, 0, 1, 2, 3, 4, 5);
        rowOf(x, 1, 9, 9, 9);
        due("copy", x.copy(0, 1, 1, 0, 2), 1);
        dueRow(x, "copied", 1, 2, 3, 9);
        due("copy on itself, up", x.copy(0, 0, 0, 1, 4), 1);
        dueRow(x, "copied up", 0, 1, 1, 2, 3, 4);
        due("copy on itself, down", x.copy(0, 2, 0, 0, 3), 1);
        dueRow(x, "copied down", 0, 2, 3, 4, 3, 4);
        due("copy none at the ends", x.copy(0, 5, 1, 3, 0), 1);
        dueFinding(x, "copy none above", x.copy(0, 6, 1, 0, 0), BEYOND);
        dueFinding(x, "copy none below", x.copy(0, 0, 1, -1, 0), BEYOND);
        dueFinding(x, "copy too many from", x.copy(0, 4, 1, 0, 2), BEYOND);
        dueFinding(x, "copy too many to", x.copy(0, 0, 1, 2, 2), BEYOND);
        dueFinding(x, "copy MAX", x.copy(0, 1, 1, 1, MAX), BEYOND);
        dueFinding(x, "copy at MAX", x.copy(0, MAX, 1, 1, 1), BEYOND);
        dueFinding(x, "size ahead of nothing", x.copy(4, 9, 1, 1, -1), SIZE);
        dueFinding(x, "nothing from", x.copy(4, 9, 1, 1, 1), NOTHING);
        dueFinding(x, "nothing to", x.copy(0, 9, 4, 1, 1), NOTHING);
        due("copy(6)", x.copy(6, 0, 0, 0, -1), BAD);
        due("copy to -1", x.copy(0, 0, -1, 0, -1), BAD);
        dueRow(x, "nothing changed", 1, 2, 3, 9);
    }

    private static void means() {
        promise = "7";
        BlindPost x = new BlindPost();
        rowOf(x, 0, 1, 2, 4);
        due("mean", asked(x, x.mean(0)), 2);
        rowOf(x, 0, -1, -2, -4);
        due("mean below 0 is cut", asked(x, x.mean(0)), -2);
        rowOf(x, 0, MAX, MAX);
        due("mean of the greatest", asked(x, x.mean(0)), MAX);
        rowOf(x, 0, MIN, MIN, MIN);
        due("mean of the least", asked(x, x.mean(0)), MIN);
        due("mean(6)", x.mean(6), BAD);
        due("mean(-1)", x.mean(-1), BAD);
        dueFinding(x, "mean(1)", x.mean(1), NOTHING);
        x.row(1, 0);
        dueFinding(x, "mean of none", x.mean(1), NOUGHT);
        due("asked stays", x.asked(), MIN);
    }

    private static void texts() {
        promise = "8";
        BlindPost x = new BlindPost();
        due("text(0, 80)", x.text(0, 80), 80);
        due("text(3, 0)", x.text(3, 0), 0);
        due("text(4, 1)", x.text(4, 1), BAD);
        due("text(-1, -1)", x.text(-1, -1), BAD);
        due("text(0, 81)", x.text(0, 81), BAD);
        dueFinding(x, "text(0, -1)", x.text(0, -1), SIZE);
        due("blank", x.put(0, 79, 0), 1032);
        due("texts", x.count(7), 2);
        x.text(0, 80);
        due("blank anew", x.put(0, 79, 0), 1032);

        promise = "9";
        x = new BlindPost();
        x.text(1, 2);
        due("put", x.put(1, 0, 200), 1032);
        due("put what was cut", x.put(1, 0, -129), 1000 - 56);
        due("put what was cut below", x.put(1, 0, 256), 1127);
        due("put what was cut to 0", x.put(1, 0, MIN), 1000);
        due("put(4)", x.put(4, 0, 0), BAD);
        due("put(-1)", x.put(-1, 0, 0), BAD);
        dueFinding(x, "put(0)", x.put(0, 0, 0), NOTHING);
        dueFinding(x, "put at 2", x.put(1, 2, 0), BEYOND);
        dueFinding(x, "put at -1", x.put(1, -1, 0), BEYOND);
        due("asked is not told", x.asked(), 0);
    }

    private static String times(String part, int n) {
        StringBuilder all = new StringBuilder();
        for (int i = 0; i < n; i++) {
            all.append(part);
        }
        return all.toString();
    }

    private static void faults() {
        promise = "10";
        due("empty", faultOf(""), NONE);
        due("blanks", faultOf("    "), NONE);
        due("hands and meetings", faultOf("  h013 c  s4 l u y01234  m010   m657  ".replace("m657", "m543")), NONE);
        due("no blanks", faultOf("h01c2m010m107"), NONE);
        due("letters alone", faultOf("hhhhhhh"), NONE);
        due("another letter", faultOf("h x"), 2);
        due("a great letter", faultOf("H"), 0);
        due("a figure ahead", faultOf("0"), 0);
        due("a figure behind a blank", faultOf("h 0"), 2);
        due("figure 5", faultOf("h05"), 2);
        due("figure 9", faultOf("h9"), 1);
        due("not rising", faultOf("h10"), 2);
        due("alike", faultOf("h11"), 2);
        due("an eighth hand", faultOf("h h h h h h h h"), 14);
        due("an eighth hand, none between", faultOf("hhhhhhh0c"), 8);
        due("a hand behind a meeting", faultOf("hh m010 h"), 8);
        due("sixteen meetings", faultOf("hh" + times("m010", 16)), NONE);
        due("a seventeenth meeting", faultOf("hh" + times("m010", 17)), 66);
        due("a seventeenth meeting's letter alone", faultOf("hh" + times("m010", 16) + " m"), 67);
        due("no such hand, first", faultOf("hh m210"), 4);
        due("no such hand, second", faultOf("hh m020"), 5);
        due("the same twice", faultOf("hh m110"), 5);
        due("hour 8", faultOf("hh m018"), 6);
        due("hour 7", faultOf("hh m017"), NONE);
        due("ends behind m", faultOf("hh m"), 4);
        due("ends behind the first", faultOf("hh m0"), 5);
        due("ends behind the second", faultOf("hh m01"), 6);
        due("blank behind m", faultOf("hh m 010"), 4);
        due("blank within", faultOf("hh m0 10"), 5);
        due("blank ahead of the hour", faultOf("hh m01 0"), 6);
        due("a figure too many", faultOf("hh m0107"), 7);
        due("a letter within", faultOf("hh m0h0"), 5);
        due("a meeting without hands", faultOf("m010"), 1);
        due("m alone", faultOf("m"), 1);
        BlindPost x = new BlindPost();
        x.text(0, 2);
        x.put(0, 1, -24);
        due("a byte below 0", x.fault(0), 1);
        x.put(0, 1, 104 + 256);
        due("a byte that was cut to a letter", x.fault(0), NONE);
        due("fault(4)", x.fault(4), BAD);
        due("fault(-1)", x.fault(-1), BAD);
        dueFinding(x, "fault(1)", x.fault(1), NOTHING);
    }

    private static void lands() {
        promise = "11";
        BlindPost x = landOf("h0 h0 c m012 m120");
        x.hours(2);
        x.send(0, 1, 1);
        x.keep(1);
        write(x, 2, "h0 hq");
        due("a fault", x.land(2), STATE);
        due("nothing changed", x.count(0) * 1000 + x.count(1) * 100 + x.count(2) * 10 + x.count(3), 3221);
        due("kept stays", x.count(8), 1);
        due("land(4)", x.land(4), BAD);
        due("land(-1)", x.land(-1), BAD);
        dueFinding(x, "land(1)", x.land(1), NOTHING);
        write(x, 1, " s12u ");
        due("land", x.land(1), 2);
        due("no meetings", x.count(1), 0);
        due("hour 0", x.count(2), 0);
        due("no letters", x.count(3), 0);
        due("kept lands go", x.count(8), 0);
        dueFinding(x, "on", x.on(1), NOTHING);
        due("kind 0", asked(x, x.hand(0, 0)), 2);
        due("known 0", asked(x, x.hand(0, 1)), 6);
        due("kind 1", asked(x, x.hand(1, 0)), 4);
        due("known 1", asked(x, x.hand(1, 1)), 0);
        x.text(3, 0);
        due("land of none", x.land(3), 0);
        due("no hands", x.count(0), 0);
        due("known anew", landOf("h0123 h").may(1, 31), 1);
    }

    private static void handsOfLands() {
        promise = "12";
        BlindPost x = landOf("h03 c s l1 u4 y h03 m010 m011 m162 m260");
        int[] kinds = {0, 1, 2, 3, 4, 5, 0};
        int[] known = {9, 0, 0, 2, 16, 0, 9};
        int[] meetings = {2, 3, 1, 0, 0, 0, 2};
        for (int i = 0; i < 7; i++) {
            due("kind of " + i, asked(x, x.hand(i, 0)), kinds[i]);
            due("known of " + i, asked(x, x.hand(i, 1)), known[i]);
            due("meetings of " + i, asked(x, x.hand(i, 2)), meetings[i]);
            due("letters of " + i, asked(x, x.hand(i, 3)), 0);
        }
        x.send(0, 6, 8);
        x.send(0, 6, 1);
        due("letters of who sent them", asked(x, x.hand(0, 3)), 2);
        x.give(1, 1);
        due("one left", asked(x, x.hand(0, 3)), 1);
        due("one with the child", asked(x, x.hand(1, 3)), 1);
        x.hours(2);
        x.give(1, 6);
        due("came there: not on its way", asked(x, x.hand(6, 3)), 0);
        due("none with the child", asked(x, x.hand(1, 3)), 0);
        due("hand(7)", x.hand(7, 0), BAD);
        due("hand(-1)", x.hand(-1, 0), BAD);
        due("what 4", x.hand(0, 4), BAD);
        due("what -1", x.hand(0, -1), BAD);
    }

    private static void marks() {
        promise = "13";
        BlindPost x = landOf("h03 c12 s0 l1 u134 y2 s13 m410 m416 m407 m140 m051 m562");
        int[][] marks = {
            {BAD, FINDING, FINDING, FINDING, FINDING, FINDING},
            {BAD, 2, FINDING, FINDING, FINDING, FINDING},
            {BAD, FINDING, 3, FINDING, FINDING, FINDING},
            {BAD, FINDING, FINDING, 0, FINDING, FINDING},
            {BAD, 3, FINDING, FINDING, 2, FINDING},
            {BAD, FINDING, FINDING, 0, FINDING, 4},
            {BAD, FINDING, 31, FINDING, FINDING, FINDING},
        };
        for (int i = 0; i < 7; i++) {
            for (int kind = 0; kind <= 5; kind++) {
                due("mark(" + i + ", " + kind + ")", x.mark(i, kind), marks[i][kind]);
            }
        }
        dueFinding(x, "unlike", x.mark(0, 1), UNLIKE);
        due("mark(7, 1)", x.mark(7, 1), BAD);
        due("mark(-1, 1)", x.mark(-1, 1), BAD);
        due("mark(0, 6)", x.mark(0, 6), BAD);
        due("mark(0, -1)", x.mark(0, -1), BAD);
        due("a scholar at the ends", landOf("s04").mark(0, 2), 27);

        x = landOf("h0 l0 l h0 y m010 m121 m231 m022 m302");
        due("sent by a learner", x.send(1, 3, 1), 0);
        x.hours(1);
        x.give(0, 2);
        due("not as who sent it", x.mark(1, 3), 0);
        due("has it yet", x.mark(2, 3), 0);
        due("one to a learner", x.send(0, 1, 1), 1);
        x.hours(7);
        x.give(1, 1);
        due("came to it at last", x.mark(1, 3), 0);
        x.hours(1);
        due("it is there", x.give(0, 3), 1);
        due("gave on", x.mark(2, 3), 1);
        x.back(0);
        due("undone", x.mark(2, 3), 0);
    }

    private static void teaching() {
        promise = "14";
        BlindPost x = landOf("h0 h");
        due("taught anew", x.teach(1, 4, 1), 0);
        due("taught again", x.teach(1, 4, 1), 1);
        due("known", asked(x, x.hand(1, 1)), 16);
        due("the other one", asked(x, x.hand(0, 1)), 1);
        due("forgets", x.teach(1, 4, 0), 1);
        due("forgets again", x.teach(1, 4, 0), 0);
        due("none known", asked(x, x.hand(1, 1)), 0);
        due("teach(2)", x.teach(2, 0, 1), BAD);
        due("teach(-1)", x.teach(-1, 0, 1), BAD);
        due("tongue 5", x.teach(0, 5, 1), BAD);
        due("tongue -1", x.teach(0, -1, 1), BAD);
        due("is 2", x.teach(0, 0, 2), BAD);
        due("is -1", x.teach(0, 0, -1), BAD);
        due("still known", asked(x, x.hand(0, 1)), 1);
    }

    private static void meetings() {
        promise = "15";
        BlindPost x = landOf("h h h");
        due("meet", x.meet(0, 2, 7), 0);
        due("the other way round", x.meet(2, 0, 7), 1);
        due("alike", x.meet(1, 1, 0), BAD);
        due("no hand", x.meet(3, 1, 0), BAD);
        due("no hand below", x.meet(0, -1, 0), BAD);
        due("hour 8", x.meet(0, 1, 8), BAD);
        due("hour -1", x.meet(0, 1, -1), BAD);
        for (int m = 2; m < 16; m++) {
            due("meeting " + m, x.meet(0, 1, m % 8), m);
        }
        due("full", x.meet(0, 1, 0), FULL);
        due("bad ahead of full", x.meet(1, 1, 0), BAD);
        due("meetings", x.count(1), 16);

        promise = "16";
        due("off(17)", x.off(17), BAD);
        due("off(-1)", x.off(-1), BAD);
        due("off(16)", x.off(16), 0);
        due("off(2)", x.off(2), 14);
        due("no more of them", x.meets(1, 3), 0);
        due("two left", x.meets(0, 7), 4);
        due("off(0)", x.off(0), 2);
        due("none left", x.meets(0, 7), 0);
        due("off of none", x.off(0), 0);
        due("off of none, 1", x.off(1), BAD);
        due("off without a land", new BlindPost().off(0), 0);

        promise = "18";
        x = landOf("h h h m017 m027 m120");
        due("hour 7", x.meets(0, 7), 6);
        due("hour 15", x.meets(0, 15), 6);
        due("hour 95", x.meets(0, 95), 6);
        due("hour 99", x.meets(0, 99), 0);
        due("told second", x.meets(2, 7), 1);
        due("hour 0", x.meets(2, 0), 2);
        due("hour 96", x.meets(1, 96), 4);
        due("hour 100", x.meets(0, 100), BAD);
        due("hour -1", x.meets(0, -1), BAD);
        due("no hand", x.meets(3, 0), BAD);
        due("no hand below", x.meets(-1, 0), BAD);
    }

    private static void carrying() {
        promise = "17";
        BlindPost x = landOf("h2 c2 s2 l2 u2 y2");
        int[] barred = {4, 0, 14, 4, 0, 0};
        for (int i = 0; i < 6; i++) {
            for (int set = 1; set <= 31; set++) {
                due("may(" + i + ", " + set + ")", x.may(i, set), (set & barred[i]) == 0 ? 1 : 0);
            }
        }
        due("a scholar of 0", landOf("s0").may(0, 2), 0);
        due("a scholar of 0, 4", landOf("s0").may(0, 16), 1);
        due("a scholar of 4", landOf("s4").may(0, 8), 0);
        due("a scholar of 4, 0", landOf("s4").may(0, 1), 1);
        due("a scholar of none", landOf("s").may(0, 31), 1);
        due("may(6)", x.may(6, 1), BAD);
        due("may(-1)", x.may(-1, 1), BAD);
        due("none", x.may(0, 0), BAD);
        due("32", x.may(0, 32), BAD);
        due("-1", x.may(0, -1), BAD);
    }

    private static void sending() {
        promise = "19";
        BlindPost x = landOf("h013 h1 h034 c");
        due("to oneself", x.send(0, 0, 1), BAD);
        due("no hand", x.send(4, 0, 1), BAD);
        due("to no hand", x.send(0, -1, 1), BAD);
        due("32", x.send(0, 1, 32), BAD);
        due("-1", x.send(0, 1, -1), BAD);
        due("no tongues", x.send(0, 1, 0), BAD);
        due("who sends does not know", x.send(1, 2, 1), STATE);
        due("who reads does not know", x.send(0, 1, 3), STATE);
        due("a child without tongues", x.send(0, 3, 1), STATE);
        due("both", x.send(0, 2, 9), 0);
        due("one", x.send(2, 0, 8), 1);
        due("two", x.send(1, 0, 2), 2);
        due("three", x.send(0, 1, 2), 3);
        due("full", x.send(0, 1, 2), FULL);
        due("state ahead of full", x.send(0, 1, 1), STATE);
        due("bad ahead of state", x.send(1, 1, 1), BAD);
        due("letters", x.count(3), 4);
        due("it is with who sent it", x.where(2), 1);
    }

    private static void giving() {
        promise = "20";
        BlindPost x = landOf("h0 c0 h s1 h0 h0 h m010 m020 m030 m040 m050 m121 m141 m020 m160 m621");
        due("send", x.send(0, 4, 1), 0);
        due("k below 0", x.give(-1, 1), BAD);
        due("no hand", x.give(0, 7), BAD);
        due("no hand below", x.give(0, -1), BAD);
        due("bad ahead of beyond", x.give(1, 7), BAD);
        dueFinding(x, "no such letter", x.give(1, 1), BEYOND);
        due("a scholar of what is next to it", x.give(0, 3), STATE);
        due("one who knows it", x.give(0, 5), STATE);
        due("one whom one does not meet", x.give(0, 6), STATE);
        due("oneself", x.give(0, 0), STATE);
        due("a child who knows it", x.give(0, 1), 0);
        due("once in an hour", x.give(0, 6), STATE);
        x.hours(1);
        due("to whom it is, who knows it", x.give(0, 4), 1);
        x.hours(1);
        due("it is there, and stays", x.give(0, 1), STATE);
        x = landOf("c0 h h0 m010 m121");
        x.send(0, 2, 1);
        x.give(0, 1);
        x.hours(8);
        due("back to who sent it", x.give(0, 0), STATE);
        x = landOf("h0 h h h0 m010 m121 m122 m013 m023 m134");
        x.send(0, 3, 1);
        x.give(0, 1);
        x.hours(1);
        due("on", x.give(0, 2), 0);
        x.hours(1);
        due("to each it comes once", x.give(0, 1), STATE);
        due("where", x.where(0), 2);
        x = landOf("h0 h0 m012");
        x.send(0, 1, 1);
        due("not in this hour", x.give(0, 1), STATE);
        x.hours(10);
        due("in this one, modulo 8", x.give(0, 1), 1);
    }

    private static void mutesGiving() {
        promise = "20";
        BlindPost x = landOf("h0 h u0 u h0 m010 m021 m120 m231 m341 m241");
        x.send(0, 4, 1);
        x.give(0, 1);
        x.hours(8);
        due("a mute from one between", x.give(0, 2), STATE);
        x.back(0);
        x.hours(1);
        due("a mute from who sends it", x.give(0, 2), 0);
        x.hours(8);
        due("a mute from a mute", x.give(0, 3), STATE);
        due("a mute gives it on", x.give(0, 4), 1);
        x = landOf("h0 h u0 m010 m121");
        x.send(0, 2, 1);
        x.give(0, 1);
        x.hours(1);
        due("a mute to whom it is takes it from anybody", x.give(0, 2), 1);
    }

    private static void learning() {
        promise = "20";
        BlindPost x = landOf("h03 l1 y h03 h m010 m121 m232");
        x.send(0, 3, 9);
        x.give(0, 1);
        due("a learner has not learnt yet", asked(x, x.hand(1, 1)), 2);
        x.hours(1);
        x.give(0, 2);
        due("a learner who gave it on", asked(x, x.hand(1, 1)), 11);
        due("a spy has not learnt yet", asked(x, x.hand(2, 1)), 0);
        x.hours(1);
        x.give(0, 3);
        due("a spy who gave it on", asked(x, x.hand(2, 1)), 9);
        x.back(0);
        due("what one knows stays", asked(x, x.hand(2, 1)), 9);
        due("a learner may not now", x.may(1, 1), 0);
        due("a spy may yet", x.may(2, 1), 1);
        due("a hand learns nothing", asked(x, x.hand(4, 1)), 0);
    }

    private static void hoursAndWhere() {
        promise = "21";
        BlindPost x = new BlindPost();
        due("hours(0)", x.hours(0), 0);
        due("hours(20)", x.hours(20), 20);
        due("hours(21)", x.hours(21), BAD);
        due("hours(-1)", x.hours(-1), BAD);
        x.hours(20);
        x.hours(20);
        x.hours(20);
        due("hours(19)", x.hours(19), 99);
        due("full", x.hours(1), FULL);
        due("bad ahead of full", x.hours(21), BAD);
        due("none go by", x.hours(0), 99);

        promise = "22";
        x = landOf("h0 h h0 m013 m124");
        x.hours(2);
        x.send(0, 2, 1);
        due("with who sent it", x.where(0), 0);
        due("when it was sent", x.asked(), 2);
        x.hours(1);
        x.give(0, 1);
        x.hours(1);
        due("with the next one", x.where(0), 1);
        due("when it came", x.asked(), 3);
        x.give(0, 2);
        x.hours(5);
        due("there", x.where(0), 2);
        due("when it came there", x.asked(), 4);
        x.back(0);
        due("undone", x.where(0), 1);
        due("when it came to that one", x.asked(), 3);
        due("below 0", x.where(-1), BAD);
        dueFinding(x, "no such", x.where(1), BEYOND);
        due("asked stays", x.asked(), 3);
    }

    private static void handsAndBack() {
        promise = "23";
        BlindPost x = landOf("h0 h h0 m010 m121");
        x.send(0, 2, 1);
        x.row(4, 9);
        due("hands at first", x.hands(0, 4), 1);
        dueRow(x, "hands at first", 4, 0);
        x.give(0, 1);
        x.hours(1);
        x.give(0, 2);
        due("hands", x.hands(0, 5), 3);
        dueRow(x, "hands", 5, 0, 1, 2);
        BlindPost all = landOf("h0 h h h h h h0 m010 m121 m232 m343 m454 m565");
        all.send(0, 6, 1);
        for (int next = 1; next <= 6; next++) {
            due("given to " + next, all.give(0, next), next == 6 ? 1 : 0);
            all.hours(1);
        }
        due("all seven", all.hands(0, 1), 7);
        dueRow(all, "all seven", 1, 0, 1, 2, 3, 4, 5, 6);
        due("below 0", x.hands(-1, 0), BAD);
        due("no row", x.hands(0, 6), BAD);
        due("no row below", x.hands(9, -1), BAD);
        dueFinding(x, "no such", x.hands(1, 0), BEYOND);
        due("no row came", x.at(0, 0), FINDING);

        promise = "24";
        due("back", x.back(0), 1);
        due("given anew in this hour", x.give(0, 2), 1);
        due("back again", x.back(0), 1);
        due("back to the first", x.back(0), 0);
        due("not given", x.back(0), STATE);
        due("below 0", x.back(-1), BAD);
        dueFinding(x, "no such", x.back(1), BEYOND);
        due("hands after it", x.hands(0, 0), 1);
        x.hours(7);
        due("it can come to that one anew", x.give(0, 1), 0);
    }

    private static void keeping() {
        promise = "25";
        BlindPost x = new BlindPost();
        due("no hands", x.keep(0), STATE);
        due("bad ahead of state", x.keep(3), BAD);
        x = landOf("h0 h h0 m010 m121");
        x.send(0, 2, 1);
        x.hours(8);
        due("keep", x.keep(2), 8);
        due("keep(3)", x.keep(3), BAD);
        due("keep(-1)", x.keep(-1), BAD);
        due("one is kept", x.count(8), 1);

        promise = "26";
        x.give(0, 1);
        x.teach(1, 3, 1);
        x.teach(0, 0, 0);
        x.meet(0, 2, 5);
        x.off(1);
        x.hours(3);
        x.send(2, 0, 1);
        due("on", x.on(2), 8);
        due("the hour", x.count(2), 8);
        due("letters", x.count(3), 1);
        due("with who sent it", x.where(0), 0);
        due("meetings", x.count(1), 2);
        due("meets", x.meets(1, 1), 4);
        due("meets no more", x.meets(0, 5), 0);
        due("known", asked(x, x.hand(1, 1)), 0);
        due("known by the first", asked(x, x.hand(0, 1)), 1);
        x.give(0, 1);
        x.hours(1);
        due("on again: it is kept yet", x.on(2), 8);
        due("and is not what went on", x.where(0), 0);
        due("on(3)", x.on(3), BAD);
        due("on(-1)", x.on(-1), BAD);
        dueFinding(x, "on(0)", x.on(0), NOTHING);
        x.teach(1, 0, 1);
        x.keep(2);
        x.teach(1, 0, 0);
        x.on(2);
        due("kept anew", asked(x, x.hand(1, 1)), 1);
    }

    private static void soonness() {
        promise = "27";
        BlindPost x = landOf("h h h1 s2 u h y1 m013 m122 m024 m035 m236 m145 m427 m060 m260");
        due("over 1, in the next round", x.soon(0, 1, 1, 0), 4);
        due("the hour itself counts", x.soon(0, 1, 1, 3), 1);
        due("missed by one: over 2", x.soon(0, 1, 1, 4), 7);
        due("whoever reads", x.soon(0, 2, 2, 0), 5);
        due("one step an hour", x.soon(0, 2, 1, 0), 5);
        due("by a scholar", x.soon(0, 2, 1, 5), 2);
        due("not by a scholar of what is next to it", x.soon(0, 2, 2, 5), 8);
        x.off(6);
        due("0 1 2", x.soon(0, 2, 1, 3), 2);
        due("a scholar bars", x.soon(0, 3, 4, 6), 8);
        due("a mute between from another one", x.soon(0, 4, 1, 0), 6);
        due("no hand to be met", x.soon(0, 5, 1, 0), NONE);
        due("to oneself", x.soon(0, 0, 1, 0), BAD);
        due("no hand", x.soon(7, 0, 1, 0), BAD);
        due("to no hand", x.soon(0, 7, 1, 0), BAD);
        due("no tongues", x.soon(0, 1, 0, 0), BAD);
        due("tongues 32", x.soon(0, 1, 32, 0), BAD);
        due("hour 100", x.soon(0, 1, 1, 100), BAD);
        due("hour -1", x.soon(0, 1, 1, -1), BAD);
        due("at the last hour", landOf("hh m013").soon(0, 1, 1, 99), 1);
        due("one hour too late", landOf("hh m012").soon(0, 1, 1, 99), NONE);
        due("above hour 99", landOf("hh m010").soon(0, 1, 1, 97), NONE);
        String slow = "hhhhhhh m010 m127 m236 m345 m454 m563";
        due("in 40", landOf(slow).soon(0, 6, 1, 4), 40);
        due("not in 41", landOf(slow).soon(0, 6, 1, 3), NONE);
        due("from hour 60 on: above 99", landOf(slow).soon(0, 6, 1, 60), 40);
        due("from hour 68 on", landOf(slow).soon(0, 6, 1, 68), NONE);
        due("a mute just behind the first", landOf("h u h m010 m121").soon(0, 2, 1, 0), 2);
        due("a mute later", landOf("h h u h m010 m121 m232").soon(0, 3, 1, 0), NONE);
        due("a mute later, but met at first, too", landOf("h h u h m010 m121 m232 m027").soon(0, 3, 1, 0), 11);
        due("nobody learns", landOf("h l h m010 m121").soon(0, 2, 1, 0), 2);
    }

    private static void waysShort() {
        promise = "28";
        BlindPost x = landOf("h h h h h1 h h m010 m021 m032 m143 m243 m345 m526 m655 m606");
        due("way", x.way(0, 5, 1, 3), 1);
        dueRow(x, "way", 3, 0, 2, 5);
        due("way of two ways", x.way(0, 4, 1, 3), 1);
        dueRow(x, "the first by numbers", 3, 0, 1, 4);
        due("way over one who knows it", x.way(3, 5, 2, 3), 2);
        dueRow(x, "around", 3, 3, 0, 2, 5);
        due("direct", x.way(5, 2, 31, 3), 0);
        dueRow(x, "direct", 3, 5, 2);
        x.off(2);
        due("none", x.way(0, 5, 1, 3), NONE);
        dueRow(x, "the row stays", 3, 5, 2);
        due("none, no row", x.way(0, 5, 1, 4), NONE);
        due("no row came", x.at(4, 0), FINDING);
        due("no row", x.way(0, 1, 1, 6), BAD);
        due("to oneself", x.way(0, 0, 1, 0), BAD);
        due("no hand", x.way(-1, 0, 1, 0), BAD);
        due("no tongues", x.way(0, 1, 0, 0), BAD);
        due("tongues 32", x.way(0, 1, 32, 0), BAD);
        BlindPost all = landOf("hhhhhhh m010 m120 m230 m340 m450 m560");
        due("over all", all.way(6, 0, 1, 2), 5);
        dueRow(all, "over all", 2, 6, 5, 4, 3, 2, 1, 0);
        x = landOf("h u h h h m010 m140 m020 m230 m340 m310");
        due("by a mute", x.way(0, 4, 1, 0), 1);
        dueRow(x, "by a mute", 0, 0, 1, 4);
        x = landOf("h u h h h m120 m020 m140 m230 m340");
        due("not by a mute", x.way(0, 4, 1, 0), 2);
        dueRow(x, "not by a mute", 0, 0, 2, 3, 4);
        x = landOf("h0 h0 h0 m010 m120");
        due("over one who knows it", x.way(0, 2, 1, 0), NONE);
        due("in another tongue", x.way(0, 2, 2, 0), 1);
    }

    private static void tonguesAndParts() {
        promise = "29";
        BlindPost x = landOf("h0134 h0 h1 h0134 m010 m131 m020 m235 m232");
        due("the soonest", x.tongue(0, 3, 0), 1);
        due("how soon", x.asked(), 2);
        x = landOf("h012 h1 h h012 m010 m131 m020 m232");
        due("the first of alike ones", x.tongue(0, 3, 0), 0);
        due("how soon, first", x.asked(), 2);
        due("in tongue 1 later", x.soon(0, 3, 2, 0), 3);
        due("no common one", x.tongue(1, 2, 0), NONE);
        due("asked stays", x.asked(), 2);
        due("not in time", x.tongue(0, 3, 99), NONE);
        due("to oneself", x.tongue(0, 0, 0), BAD);
        due("no hand", x.tongue(0, 4, 0), BAD);
        due("hour 100", x.tongue(0, 3, 100), BAD);
        due("hour -1", x.tongue(0, 3, -1), BAD);

        promise = "30";
        due("one part", x.parts(0, 3, 1, 0), 2);
        due("two parts", x.parts(0, 3, 3, 0), 3);
        due("whole at once is no sooner", x.soon(0, 3, 3, 0), 3);
        x.teach(2, 2, 1);
        x.teach(1, 2, 1);
        due("one part does not get there", x.parts(0, 3, 7, 0), NONE);
        due("others do", x.parts(0, 3, 27, 0), 3);
        x = landOf("h h0 h1 h m010 m131 m020 m232");
        due("in parts", x.parts(0, 3, 3, 0), 3);
        due("not at once", x.soon(0, 3, 3, 0), NONE);
        due("to oneself", x.parts(1, 1, 1, 0), BAD);
        due("no tongues", x.parts(0, 3, 0, 0), BAD);
        due("tongues 32", x.parts(0, 3, 32, 0), BAD);
        due("hour 100", x.parts(0, 3, 1, 100), BAD);
        due("no hand", x.parts(0, 4, 1, 0), BAD);
    }

    private static void apartAndNeeds() {
        promise = "31";
        BlindPost x = landOf("h h h h h h h m010 m020 m130 m230 m340 m350 m460 m560 m060 m061");
        due("all over 3, and the direct one once", x.apart(0, 6, 1), 2);
        due("two ways", x.apart(0, 3, 1), 3);
        due("from 3 on", x.apart(3, 6, 1), 3);
        x.teach(1, 0, 1);
        due("one knows it", x.apart(0, 3, 1), 2);
        due("none", landOf("h h").apart(0, 1, 1), 0);
        due("direct alone", landOf("h h m010 m013").apart(0, 1, 1), 1);
        due("a mute that is not met at first", landOf("h h u h m010 m120 m230 m130").apart(0, 3, 1), 1);
        due("a mute that is", landOf("h h u h m010 m120 m230 m130 m020").apart(0, 3, 1), 2);
        due("to go apart a first way has to yield",
            landOf("h h h h h h m010 m020 m130 m230 m240 m350 m450").apart(0, 5, 1), 2);
        due("to oneself", x.apart(0, 0, 1), BAD);
        due("no hand", x.apart(0, 7, 1), BAD);
        due("no tongues", x.apart(0, 1, 0), BAD);
        due("tongues 32", x.apart(0, 1, 32), BAD);

        promise = "32";
        x = landOf("h h h h h h h m010 m020 m130 m230 m340 m350 m460 m560");
        due("3 is on each", x.needs(0, 6, 1), 8);
        due("none is", x.needs(0, 3, 1), 0);
        x.teach(1, 0, 1);
        due("2 and 3 are", x.needs(0, 6, 1), 12);
        due("without any", landOf("h h h m010").needs(0, 2, 1), 0);
        due("direct", landOf("h h h m010 m120 m020").needs(0, 2, 1), 0);
        due("a mute that can't be the second", landOf("h h u h m010 m120 m230 m130").needs(0, 3, 1), 2);
        due("to oneself", x.needs(0, 0, 1), BAD);
        due("no hand", x.needs(7, 0, 1), BAD);
        due("no tongues", x.needs(0, 1, 0), BAD);
        due("tongues 32", x.needs(0, 1, 32), BAD);
    }

    private static void forgetting() {
        promise = "33";
        BlindPost x = landOf("h h01 h0 h0 h m010 m140 m020 m230 m340");
        due("one of two tongues", x.forget(0, 4, 1), 1);
        due("who has to", x.asked(), 2);
        due("two alike: fewer hands", x.forget(0, 4, 3), 2);
        due("who has to of fewer hands", x.asked(), 2);
        due("nothing bars", x.forget(0, 4, 4), 0);
        due("nobody has to", x.asked(), 0);
        x.off(4);
        due("one way is left", x.forget(0, 3, 1), 1);
        due("who is on it", x.asked(), 4);
        due("none at all", landOf("h h h m010").forget(0, 2, 1), NONE);
        x = landOf("h s0134 h m010 m120");
        due("a scholar all that bars", x.forget(0, 2, 4), 2);
        due("a scholar has to", x.asked(), 2);
        due("a scholar of two", x.forget(0, 2, 2), 2);
        due("a scholar of all", x.forget(0, 2, 31), 4);
        x = landOf("h c01 h0 y01 h m020 m240 m010 m130 m340");
        due("children, spies none", x.forget(0, 4, 1), 0);
        due("by these", x.asked(), 0);
        x = landOf("h h0 h0 h m010 m130 m020 m230");
        due("alike: the first by numbers", x.forget(0, 3, 1), 1);
        due("the first one", x.asked(), 2);
        x = landOf("h h0 u0 h m010 m120 m230");
        due("a mute can't, whoever forgets", x.forget(0, 3, 1), NONE);
        due("asked stays", x.asked(), 0);
        x = landOf("h l012 h m010 m120");
        due("a learner", x.forget(0, 2, 6), 2);
        due("to oneself", x.forget(0, 0, 1), BAD);
        due("no hand", x.forget(0, 3, 1), BAD);
        due("no tongues", x.forget(0, 1, 0), BAD);
        due("tongues 32", x.forget(0, 1, 32), BAD);
        due("asked stays when refused", x.asked(), 2);
    }

    private static void reaching() {
        promise = "34";
        BlindPost x = landOf("h0 h1 h01 h0 h1 m010 m120 m230 m340");
        due("by 1 to 2, not on to 3", x.reach(0, 0), 4);
        due("one who does not know it", x.reach(0, 1), 0);
        due("who is met", x.reach(1, 1), 4);
        due("back", x.reach(2, 0), 9);
        due("by 3", x.reach(2, 1), 18);
        due("tongue 4", x.reach(2, 4), 0);
        due("tongue 5", x.reach(0, 5), BAD);
        due("tongue -1", x.reach(0, -1), BAD);
        due("no hand", x.reach(5, 0), BAD);
        due("no hand below", x.reach(-1, 0), BAD);

        promise = "35";
        due("cut off: 0 and 3, 1 and 4", x.cutOff(), 4);
        due("of all", x.asked(), 12);
        x.off(0);
        due("all are cut off", x.cutOff(), 12);
        due("of all of them", x.asked(), 12);
        x = new BlindPost();
        due("no hands", x.cutOff(), 0);
        due("of none", x.asked(), 0);
        x = landOf("h01 h0 h01 m010 m120");
        due("in one of two tongues", x.cutOff(), 0);
        due("six pairs", x.asked(), 6);
        x = landOf("h0 h u h0 m010 m120 m230");
        due("a mute can be just behind the first one way alone", x.cutOff(), 1);
        due("two pairs", x.asked(), 2);
        x = landOf("h0 h u h0 m010 m120 m230 m130 ");
        due("not by the mute", x.cutOff(), 0);
        x = landOf("h0 u h h0 m010 m120 m230");
        due("one way a mute is just behind the first", x.cutOff(), 1);
    }

    private static void teachingCuts() {
        promise = "36";
        BlindPost x = landOf("h0 h h0 m010 m120");
        due("the one between is taught", asked(x, x.taught(1, 0)), 2);
        due("another tongue", asked(x, x.taught(1, 1)), 0);
        due("one knows it already", asked(x, x.taught(0, 0)), 0);
        due("nobody learnt", asked(x, x.hand(1, 1)), 0);
        x = landOf("h0 h0 h0 m010 m120");
        x.taught(0, 1);
        due("fewer: none by one alone", x.asked(), 0);
        x.teach(0, 1, 1);
        due("fewer", asked(x, x.taught(2, 1)), -2);
        due("no hand", x.taught(3, 0), BAD);
        due("no hand below", x.taught(-1, 0), BAD);
        due("tongue 5", x.taught(0, 5), BAD);
        due("tongue -1", x.taught(0, -1), BAD);
        due("asked stays", x.asked(), -2);

        promise = "37";
        due("best", x.best(), 21);
        due("none is cut off then", x.asked(), 0);
        due("best knows nothing more", asked(x, x.hand(2, 1)), 1);
        x = landOf("h01234 h01234 m010");
        due("all know all", x.best(), NONE);
        due("asked stays", x.asked(), 0);
        due("no hands", new BlindPost().best(), NONE);
        x = landOf("h01234 h0123 m010");
        due("the one that is left", x.best(), 14);
        x = landOf("h0 h0");
        due("nothing helps: the first", x.best(), 1);
        due("two are cut off", x.asked(), 2);
        x = landOf("h01234 h1234 h01234 m010 m120");
        due("it has to be", x.best(), 10);
        due("how many by it", x.asked(), 2);
    }

    private static void worthAndFewest() {
        promise = "38";
        BlindPost x = landOf("h012 h2 h h012 h0 m010 m130 m020 m230");
        due("for tongue 2, both ways", x.worth(2), 2);
        due("the other one", x.worth(1), 0);
        due("an end", x.worth(0), 0);
        x.off(2);
        due("for two tongues, both ways", x.worth(1), 4);
        due("of no way", x.worth(2), 0);
        due("no hand", x.worth(5), BAD);
        due("no hand below", x.worth(-1), BAD);
        due("met by each other", landOf("h0 h h0 m010 m120 m020").worth(1), 0);
        due("a mute one way", landOf("h0 u h h0 m010 m120 m230").worth(1), 1);

        promise = "39";
        x = landOf("h01 h12 h02 h012 m010 m120 m020 m030");
        due("each pair its own", x.fewest(), 3);
        due("all three", x.asked(), 7);
        x = landOf("h013 h12 h023 m010 m120 m020");
        due("fewest", x.fewest(), 3);
        due("the least of alike sets", x.asked(), 7);
        x = landOf("h04 h14 h4 h014 m030 m130 m230 m010 m020 m120");
        due("one is enough", x.fewest(), 1);
        due("that one", x.asked(), 16);
        x = landOf("h12 h12 m010");
        due("the least", x.fewest(), 1);
        due("the least one", x.asked(), 2);
        x = landOf("h01234 h01234 m010");
        due("any of all", x.fewest(), 1);
        due("the least of all", x.asked(), 1);
        x = landOf("h0 h0 h1 h1 m230");
        due("cut off ones don't count", x.fewest(), 1);
        due("the other ones do", x.asked(), 2);
        x = new BlindPost();
        due("no hands", x.fewest(), 0);
        due("none", x.asked(), 0);
        x = landOf("h01 h0 h01 m010 m120");
        due("in which there is a way", x.fewest(), 2);
        due("both", x.asked(), 3);
    }

    private static void reading() {
        BlindPost x = landOf("h h h h");
        promise = "40";
        rowOf(x, 0, 3, 1, 4, 0);
        due("reader", x.reader(0), 3);
        rowOf(x, 0, 3, 1, 6, 1);
        due("in both", x.reader(0), 2);
        rowOf(x, 0, 3, 1, 12, 1);
        due("in none", x.reader(0), 0);
        rowOf(x, 0);
        due("of no letters", x.reader(0), 15);
        rowOf(x, 0, 0, 0);
        due("of no hands, not read", x.reader(0), 15);
        rowOf(x, 0, 15, 0);
        due("nobody", x.reader(0), 0);
        due("no row", x.reader(6), BAD);
        due("no row below", x.reader(-1), BAD);
        dueFinding(x, "missing", x.reader(1), NOTHING);
        rowOf(x, 1, 99);
        dueFinding(x, "not even, ahead of unlike", x.reader(1), SIZE);
        rowOf(x, 1, 16, 1);
        dueFinding(x, "no set of these hands", x.reader(1), UNLIKE);
        rowOf(x, 1, -1, 1);
        dueFinding(x, "no set below 0", x.reader(1), UNLIKE);
        rowOf(x, 1, 1, 2);
        dueFinding(x, "neither 1 nor 0", x.reader(1), UNLIKE);
        rowOf(x, 1, 1, -1);
        dueFinding(x, "below 0", x.reader(1), UNLIKE);
        BlindPost none = new BlindPost();
        none.row(0, 0);
        due("no hands", none.reader(0), 0);
        rowOf(none, 0, 0, 1);
        due("the empty set alone", none.reader(0), 0);
        rowOf(none, 0, 1, 1);
        dueFinding(none, "no hands: no set", none.reader(0), UNLIKE);

        promise = "41";
        rowOf(x, 0, 3, 1, 12, 1);
        due("one of each", x.readers(0), 4);
        rowOf(x, 0, 3, 1, 4, 0);
        due("without 2", x.readers(0), 3);
        rowOf(x, 0);
        due("of no letters", x.readers(0), 6);
        rowOf(x, 0, 7, 0);
        due("nobody", x.readers(0), 0);
        due("no row", x.readers(6), BAD);
        x.tear(1);
        dueFinding(x, "missing", x.readers(1), NOTHING);
        rowOf(x, 1, 1, 1, 1);
        dueFinding(x, "not even", x.readers(1), SIZE);
        rowOf(x, 1, 16, 1);
        dueFinding(x, "no set", x.readers(1), UNLIKE);
        rowOf(x, 1, 15, 1, 1, 2);
        dueFinding(x, "neither 1 nor 0", x.readers(1), UNLIKE);
        due("one hand is no pair", oneHand().readers(0), 0);

        promise = "42";
        rowOf(x, 0, 1, 4, 5);
        due("knows", x.knows(0), 8);
        due("greatest", x.asked(), 26);
        rowOf(x, 0);
        due("carried none", x.knows(0), 32);
        due("all", x.asked(), 31);
        rowOf(x, 0, 15, 16);
        due("carried all", x.knows(0), 1);
        due("none", x.asked(), 0);
        rowOf(x, 0, 1, 0);
        dueFinding(x, "0", x.knows(0), UNLIKE);
        rowOf(x, 0, 32);
        dueFinding(x, "32", x.knows(0), UNLIKE);
        rowOf(x, 0, -1);
        dueFinding(x, "-1", x.knows(0), UNLIKE);
        due("no row", x.knows(6), BAD);
        due("no row below", x.knows(-1), BAD);
        dueFinding(x, "missing", x.knows(5), NOTHING);
    }

    private static BlindPost oneHand() {
        BlindPost x = landOf("h");
        x.row(0, 0);
        return x;
    }

    private static void lots() {
        promise = "43";
        BlindPost x = new BlindPost();
        due("no hands", x.days(1, 1), STATE);
        due("bad ahead of state", x.days(0, 1), BAD);
        x = landOf("h0 h h h0 m010 m020 m131 m231");
        due("61", x.days(61, 1), BAD);
        due("0", x.days(0, 1), BAD);
        due("seed 0", x.days(1, 0), BAD);
        due("seed -1", x.days(1, -1), BAD);
        due("the greatest seed and one", x.days(1, MAX), BAD);
        due("without letters", x.days(8, MAX - 1), 0);
        due("hours went by", x.count(2), 8);
        x.send(0, 3, 1);
        x.send(3, 0, 1);
        // From seed 1: 48271, which is odd, so the second of two has it; 182605794, which is even.
        due("one day", x.days(1, 1), 0);
        due("by the first number", x.where(0), 2);
        due("in that hour", x.asked(), 8);
        due("without any it stays", x.where(1), 3);
        due("the second day", x.days(1, 1), 1);
        due("there", x.where(0), 3);
        due("by the same number: one of two", x.where(1), 1);
        due("one came", x.count(4), 1);
        due("the hour", x.count(2), 10);
        due("the last one", x.days(60, 1), 1);
        due("both came", x.count(4), 2);
        due("none to come", x.days(29, 1), 0);
        due("hour 99", x.count(2), 99);
        due("full", x.days(1, 1), FULL);
        due("bad ahead of full", x.days(1, 0), BAD);
        x = landOf("h0 h0 h m010 m200");
        x.send(0, 1, 1);
        x.give(0, 2);
        x.days(1, 5);
        due("given once in an hour", x.where(0), 2);
        x = landOf("h0 l h0 m010 m121");
        x.send(0, 2, 1);
        due("by a learner", x.days(2, 3), 1);
        due("who learns", asked(x, x.hand(1, 1)), 1);
    }

    private static void told() {
        promise = "44";
        BlindPost x = landOf("h0 h h0 m010 m120");
        due("0 before", x.asked(), 0);
        rowOf(x, 0, 7);
        x.lay(0, 0, 8);
        due("lay", x.asked(), 7);
        x.at(0, 0);
        due("at", x.asked(), 8);
        x.row(0, 3);
        x.hours(2);
        x.meets(0, 0);
        x.may(0, 1);
        x.mark(0, 1);
        x.reach(0, 0);
        x.worth(0);
        x.soon(0, 2, 1, 0);
        x.way(0, 2, 1, 1);
        x.parts(0, 2, 1, 0);
        x.apart(0, 2, 1);
        x.needs(0, 2, 1);
        x.upper();
        x.lower();
        x.digest();
        x.count(0);
        x.reader(3);
        x.findings(1);
        x.keep(0);
        x.on(0);
        x.days(1, 1);
        due("others tell nothing", x.asked(), 8);
        x.cutOff();
        due("cutOff", x.asked(), 2);
        x.hand(7, 0);
        x.tongue(0, 1, 0);
        x.forget(0, 0, 1);
        due("refused ones and none tell nothing", x.asked(), 2);
        x.asked();
        due("asked is told again", x.asked(), 2);
    }

    private static void parted() {
        BlindPost x = landOf("h0 h1 h01 h0 h1 m010 m120 m230 m340");
        promise = "45";
        due("8 of 12", x.upper(), 2);
        promise = "46";
        due("of 12", x.lower(), 3);
        x.off(0);
        promise = "45";
        due("0 of 12", x.upper(), 0);
        due("no hands", new BlindPost().upper(), 0);
        promise = "46";
        due("all cut off", x.lower(), 1);
        due("no hands", new BlindPost().lower(), 1);
        x = landOf("h0 h0 h0 m010");
        promise = "45";
        due("2 of 6", x.upper(), 1);
        promise = "46";
        due("2 of 6", x.lower(), 3);
    }

    private static void counted() {
        promise = "47";
        BlindPost x = landOf("h0 c u h0 m010 m130");
        x.row(1, 0);
        x.row(2, 5);
        x.text(1, 0);
        x.text(2, 0);
        x.hours(8);
        x.send(0, 3, 1);
        x.send(0, 3, 1);
        x.give(0, 1);
        x.hours(8);
        x.give(0, 3);
        x.keep(0);
        int[] counts = {4, 2, 16, 2, 1, 2, 2, 3, 1};
        for (int what = 0; what <= 8; what++) {
            due("count(" + what + ")", x.count(what), counts[what]);
        }
        due("count(9)", x.count(9), BAD);
        due("count(-1)", x.count(-1), BAD);
        x.back(0);
        due("undone", x.count(4), 0);
    }

    private static void found() {
        promise = "48";
        BlindPost x = new BlindPost();
        due("before any", x.finding(), 0);
        x.tear(0);
        due("nothing", x.finding(), NOTHING);
        x.row(0, 0);
        x.at(0, 0);
        due("beyond", x.finding(), BEYOND);
        x.mean(0);
        due("nought", x.finding(), NOUGHT);
        x.row(0, -1);
        due("size", x.finding(), SIZE);
        x.row(9, 9);
        x.land(9);
        x.keep(0);
        due("others leave it", x.finding(), SIZE);
        x.row(0, 1);
        x.knows(0);
        due("unlike", x.finding(), UNLIKE);

        promise = "49";
        int[] times = {1, 1, 1, 1, 1};
        for (int f = 1; f <= 5; f++) {
            due("findings(" + f + ")", x.findings(f), times[f - 1]);
        }
        x.knows(0);
        due("once more", x.findings(UNLIKE), 2);
        due("findings(0)", x.findings(0), BAD);
        due("findings(6)", x.findings(6), BAD);
        due("findings(-1)", x.findings(-1), BAD);
        write(x, 0, "h");
        x.land(0);
        due("a new land leaves them", x.findings(NOTHING), 1);
    }

    private static void digested() {
        promise = "50";
        BlindPost x = landOf("h0 c h0 m103 m124");
        x.hours(3);
        x.send(0, 2, 1);
        x.give(0, 1);
        x.keep(1);
        rowOf(x, 2, 7, -8);
        x.text(3, 1);
        x.put(3, 0, -5);
        x.lay(2, 0, 7);
        long[] values = {
            3, 2, 3, 1, 0, 1, 1, 2, 1,
            0, 1, 1, 0, 1, 0, 2, 1, 0, 1, 1, 0,
            1, 0, 3, 1, 2, 4,
            2, 1, 0, 1,
            -1, 3, -1,
            -1, -1, 2, 7, -8, -1, -1, -1,
            17, 104, 48, 32, 99, 32, 104, 48, 32, 109, 49, 48, 51, 32, 109, 49, 50, 52,
            -1, -1, 1, -5,
        };
        long h = 17;
        for (long v : values) {
            h = 31 * h + v;
        }
        due("digest", x.digest(), h);
        due("asked stays", x.asked(), 7);
        due("again", x.digest(), h);
    }
}
