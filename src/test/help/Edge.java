import java.io.IOException;
import java.nio.charset.StandardCharsets;
import java.nio.file.Files;
import java.nio.file.Path;
import java.util.Map;
import java.util.Set;
import java.util.TreeMap;
import java.util.TreeSet;

/**
 * What the tests of edges share: the promise and the sentence of the document that is looked at, what is due,
 * and that a call leaves all as it was.
 */
final class Edge {
    static final int BAD = -1, FULL = -2, NONE = -3;
    static final int MIN = Integer.MIN_VALUE, MAX = Integer.MAX_VALUE;

    /** A call on a court. */
    interface Call {
        long on(GooseArms g);
    }

    /** Makes the same court each time that it is asked. */
    interface Making {
        GooseArms made();
    }

    private static final String DOC = document();
    private static final Map<Integer, Set<String>> SENTENCES = new TreeMap<>();
    private static int promise = 0;
    private static String sentence = "";
    private static int checked = 0;
    private static int wrong = 0;

    private Edge() {
    }

    private static String document() {
        try {
            return words(Files.readString(Path.of("../shared/DOC.md")));
        } catch (IOException none) {
            System.out.println("../shared/DOC.md can't be read: what the tests quote is not looked up");
            return null;
        }
    }

    private static String words(String text) {
        return text.replaceAll("\\s+", " ");
    }

    /** From here on it is this sentence that is looked at; it must stand in the promise or before all of them. */
    static void sentence(int ofPromise, String text) {
        promise = ofPromise;
        sentence = text;
        SENTENCES.computeIfAbsent(ofPromise, none -> new TreeSet<>()).add(text);
        if (DOC != null && !partOf(ofPromise).contains(words(text))) {
            fails("the document doesn't say so");
        }
    }

    private static String partOf(int ofPromise) {
        int first = DOC.indexOf("## Promise 1:");
        int from = DOC.indexOf("## Promise " + ofPromise + ":");
        int to = from < 0 ? -1 : DOC.indexOf("## ", from + 3);
        String before = first < 0 ? DOC : DOC.substring(0, first);
        return from < 0 || to < 0 ? before : before + DOC.substring(from, to);
    }

    private static void fails(String what) {
        wrong++;
        if (wrong <= 20) {
            System.out.println("promise " + promise + ", \"" + sentence + "\": " + what);
        }
    }

    static void due(String what, long got, long want) {
        checked++;
        if (got != want) {
            fails(what + " answered " + got + ", due is " + want);
        }
    }

    /** The call answers as is due and leaves the court as one like it that wasn't called. */
    static void leaves(String what, Making making, Call call, long want) {
        GooseArms g = making.made();
        due(what, call.on(g), want);
        String[] got = allOf(g).split("\n");
        String[] stays = allOf(making.made()).split("\n");
        checked++;
        for (int i = 0; i < Math.max(got.length, stays.length); i++) {
            String is = i < got.length ? got[i] : "nothing";
            String was = i < stays.length ? stays[i] : "nothing";
            if (!is.equals(was)) {
                fails(what + " must leave all as it was: " + is + ", where it was " + was);
                return;
            }
        }
    }

    static void everyPromise(int first, int last) {
        for (int p = first; p <= last; p++) {
            if (!SENTENCES.containsKey(p)) {
                wrong++;
                System.out.println("promise " + p + " has no sentence looked at");
            }
        }
    }

    static void ends() {
        int sentences = SENTENCES.values().stream().mapToInt(Set::size).sum();
        System.out.println(sentences + " sentences, " + checked + " answers looked at, " + wrong + " not as due");
        if (wrong != 0) {
            System.exit(1);
        }
    }

    // ---- courts to look at ----

    static int feedText(GooseArms g, String text) {
        byte[] bytes = text.getBytes(StandardCharsets.ISO_8859_1);
        int last = g.many(5);
        for (int i = 0; i < bytes.length; i += 8) {
            long eight = 0;
            int n = Math.min(8, bytes.length - i);
            for (int k = n - 1; k >= 0; k--) {
                eight = eight * 256 + (bytes[i + k] & 255);
            }
            last = g.feed(eight, n);
        }
        return last;
    }

    static int told(GooseArms g, String text) {
        feedText(g, text);
        return g.court();
    }

    /** A court by a text that must be as told. */
    static GooseArms courtOf(String text) {
        GooseArms g = new GooseArms();
        int answer = told(g, text);
        if (answer < 0) {
            fails("the test's own text has a fault at " + (-100 - answer) + ": " + text);
        }
        return g;
    }

    /** Something of everything: said and left, kept, fed, proved, on sheets and on shelves, acted. */
    static GooseArms busy() {
        GooseArms g = new GooseArms();
        g.saying(6, 3, 0);
        g.hearer(4, 44, 7);
        g.set(2, 4);
        g.seed(-5);
        g.keep();
        g.court();
        sayings(g, 4);
        hearers(g, 3);
        g.set(0, 1);
        g.set(3, 30);
        g.seed(12345);
        g.say(1);
        g.prove(0, 2);
        g.alterRow(1, 1, 60);
        g.sheet(0, 0, 4);
        g.put(0, 0, 1);
        g.put(0, 1, -1);
        g.sheet(1, 3, 2);
        g.put(1, 1, -9);
        g.shelf(0, 0, 1);
        g.shelf(1, 1, 0);
        g.act(0, 1, 5);
        feedText(g, "horse tender 8;jud");
        return g;
    }

    static GooseArms busyAllSaid() {
        GooseArms g = busy();
        g.say(60);
        return g;
    }

    static GooseArms twelveSayings() {
        GooseArms g = new GooseArms();
        sayings(g, 12);
        g.hearer(0, 5, 255);
        return g;
    }

    static GooseArms eightHearers() {
        GooseArms g = new GooseArms();
        sayings(g, 2);
        hearers(g, 8);
        return g;
    }

    static void sayings(GooseArms g, int n) {
        for (int i = 0; i < n; i++) {
            g.saying(i % 8, (9 + 3 * i) % 10, (i + 1) % 2);
        }
    }

    static void hearers(GooseArms g, int n) {
        for (int i = 0; i < n; i++) {
            g.hearer(i % 6, 7 + 4 * i, 255 - i);
        }
    }

    // ---- all that can be seen of a court ----

    private static void see(StringBuilder all, String what, long answer) {
        all.append(what).append(" is ").append(answer).append('\n');
    }

    private static String allOf(GooseArms g) {
        StringBuilder all = new StringBuilder();
        seeCase(all, g);
        for (int i = 0; i <= g.many(4); i++) {
            for (int what = 0; what < 3; what++) {
                see(all, "row(" + i + ", " + what + ")", g.row(i, what));
            }
        }
        seeSheets(all, g);
        for (int shelf = 0; shelf < 4; shelf++) {
            for (int as : new int[] {0, 10, 11, 12, 13}) {
                see(all, "taken(" + shelf + ", " + as + ")", g.taken(shelf, as));
            }
        }
        for (int i = 0; i <= g.many(6); i++) {
            see(all, "trace(" + i + ")", g.trace(i));
        }
        // the bytes of the tape show in what they tell together with these
        see(all, "feed of more", feedText(g, "ge;"));
        see(all, "court() of the tape", g.court());
        seeCase(all, g);
        see(all, "again()", g.again());
        seeCase(all, g);
        return all.toString();
    }

    private static void seeCase(StringBuilder all, GooseArms g) {
        for (int law = 0; law < 4; law++) {
            see(all, "lawOf(" + law + ")", g.lawOf(law));
        }
        for (int what = 0; what < 6; what++) {
            see(all, "state(" + what + ")", g.state(what));
        }
        for (int what = 0; what < 7; what++) {
            see(all, "many(" + what + ")", g.many(what));
        }
        for (int i = 0; i < g.state(1); i++) {
            for (int what = 0; what < 4; what++) {
                see(all, "sayingOf(" + i + ", " + what + ")", g.sayingOf(i, what));
            }
        }
        for (int i = 0; i < g.many(0); i++) {
            for (int what = 0; what < 4; what++) {
                see(all, "of(" + i + ", " + what + ")", g.of(i, what));
            }
        }
        int z = g.seed(0);
        g.seed(z);
        see(all, "z", z);
    }

    private static void seeSheets(StringBuilder all, GooseArms g) {
        for (int sheet = 0; sheet < 4; sheet++) {
            for (int sort = 0; sort < 4; sort++) {
                int first = g.item(sheet, sort, 0);
                see(all, "item(" + sheet + ", " + sort + ", 0)", first);
                for (int i = 1; i < 5 && first != -13 && first != -11; i++) {
                    see(all, "item(" + sheet + ", " + sort + ", " + i + ")", g.item(sheet, sort, i));
                }
            }
        }
    }
}
