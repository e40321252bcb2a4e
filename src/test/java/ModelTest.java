import java.math.BigInteger;
import java.util.ArrayList;
import java.util.List;
import java.util.Random;
import java.util.TreeMap;
import java.util.function.ToIntFunction;
import java.util.regex.Matcher;
import java.util.regex.Pattern;

/**
 * Plays random calls on GooseArms and on a model of the document written in another way (things of classes with
 * super, exceptions, lists that are copied, a regular expression for the text), and compares every answer.
 */
public final class ModelTest {
    private static final int RUNS = 4000;
    private static final int CALLS = 512;

    public static void main(String[] args) {
        int wrong = 0;
        for (int run = 0; run < RUNS && wrong < 5; run++) {
            wrong += play(run);
        }
        System.out.println(wrong == 0 ? RUNS + " runs are as the model's" : wrong + " runs are not as the model's");
        if (wrong != 0) {
            System.exit(1);
        }
    }

    private static int play(int run) {
        Random random = new Random(run);
        GooseArms real = new GooseArms();
        Model model = new Model();
        List<String> told = new ArrayList<>();
        Caller caller = new Caller(random);
        for (int i = 0; i < CALLS; i++) {
            caller.choose(i);
            long got;
            try {
                got = caller.ask(real);
            } catch (RuntimeException thrown) {
                System.out.println("run " + run + ": " + caller + " threw " + thrown);
                return 1;
            }
            long want = caller.askModel(model);
            told.add(caller + " = " + got);
            if (got != want) {
                System.out.println("run " + run + ", the last calls:");
                told.subList(Math.max(0, told.size() - 40), told.size()).forEach(System.out::println);
                System.out.println("the model answers " + want);
                return 1;
            }
        }
        return 0;
    }

    /** Chooses calls: mostly of the ordinary, now and then of the edges and of what is wrong. */
    private static final class Caller {
        private static final String[] NAMES = {"feed", "court", "set", "lawOf", "saying", "sayingOf", "alter", "hearer",
            "of", "does", "mind", "tender", "say", "anew", "seed", "draught", "chills", "state", "arm", "raised", "right",
            "topicFor", "heatFor", "kindFor", "tenderFor", "nextFor", "enough", "fits", "odds", "hope", "prove", "row",
            "alterRow", "judge", "minds", "sheet", "put", "item", "shelf", "taken", "act", "trace", "many", "keep",
            "again"};
        private static final String[] WORDS = {"say ", "say", "heat ", "so", ";", "; ", " ", "hearer ", "judge", "advocate ",
            "elder ", "liar ", "horse", "tender ", "minds ", "cold ", "oath ", "wear ", "draught ", "0", "7", "8", "9", "10",
            "99", "100", "255", "256", "0001", "007", "x", "!", "says", "S"};
        private final Random random;
        private final boolean frugal;
        private String name;
        private final int[] a = new int[4];
        private long eight;
        private byte[] text = {};
        private int textPlace;

        Caller(Random random) {
            this.random = random;
            this.frugal = random.nextBoolean();
        }

        void choose(int i) {
            if (i < 24 && frugal) {
                name = i % 2 == 0 ? "saying" : "hearer";
            } else if (textPlace < text.length) {
                name = "feed";
            } else if (text.length > 0 && random.nextInt(10) > 0) {
                name = "court";
                text = new byte[0];
                textPlace = 0;
            } else {
                name = NAMES[random.nextInt(NAMES.length)];
                if ((name.equals("anew") || name.equals("again") || name.equals("court")) && random.nextInt(3) > 0) {
                    name = "state";
                }
            }
            for (int k = 0; k < a.length; k++) {
                a[k] = number(k);
            }
            if (name.equals("feed")) {
                chooseFood();
            }
        }

        private void chooseFood() {
            if (textPlace >= text.length) {
                if (random.nextInt(6) == 0) {
                    eight = random.nextLong();
                    a[0] = number(0);
                    return;
                }
                text = someText();
                textPlace = 0;
            }
            int n = Math.min(1 + random.nextInt(8), text.length - textPlace);
            eight = random.nextLong() << 1;
            for (int i = 0; i < n; i++) {
                eight = eight & ~(255L << 8 * i) | (text[textPlace++] & 255L) << 8 * i;
            }
            a[0] = n;
        }

        private byte[] someText() {
            StringBuilder b = new StringBuilder();
            int statements = random.nextInt(4) == 0 ? 30 : random.nextInt(12);
            for (int i = 0; i < statements; i++) {
                b.append(statement());
            }
            if (random.nextInt(3) == 0) {
                int at = random.nextInt(b.length() + 1);
                b.insert(at, WORDS[random.nextInt(WORDS.length)]);
            }
            if (random.nextInt(5) == 0 && b.length() > 0) {
                b.deleteCharAt(random.nextInt(b.length()));
            }
            if (random.nextInt(9) == 0) {
                b.setLength(random.nextInt(b.length() + 1));
            }
            b.setLength(Math.min(b.length(), 200));
            return b.length() == 0 ? new byte[] {' '} : b.toString().getBytes(java.nio.charset.StandardCharsets.ISO_8859_1);
        }

        private String statement() {
            String gap = random.nextInt(4) == 0 ? "  " : random.nextInt(9) == 0 ? "" : " ";
            switch (random.nextInt(8)) {
                case 0: case 1: case 2:
                    return "say" + gap + random.nextInt(8) + gap
                        + (random.nextBoolean() ? "heat" + gap + random.nextInt(random.nextInt(9) == 0 ? 11 : 10) + gap : "")
                        + (random.nextBoolean() ? "so" + gap : "") + ";" + gap;
                case 3: case 4: case 5:
                    return new String[] {"hearer", "judge", "advocate", "elder", "liar", "horse"}[random.nextInt(6)] + gap
                        + (random.nextBoolean() ? "tender" + gap + random.nextInt(random.nextInt(9) == 0 ? 110 : 15) + gap : "")
                        + (random.nextBoolean() ? "minds" + gap + random.nextInt(random.nextInt(9) == 0 ? 300 : 256) + gap : "")
                        + ";";
                default:
                    return new String[] {"cold", "oath", "wear", "draught"}[random.nextInt(4)] + gap
                        + random.nextInt(random.nextInt(9) == 0 ? 120 : 10) + gap + ";";
            }
        }

        private int number(int k) {
            switch (random.nextInt(40)) {
                case 0: return -1;
                case 1: return random.nextInt();
                case 2: return Integer.MIN_VALUE;
                case 3: return Integer.MAX_VALUE;
                case 4: return -random.nextInt(20);
                default: return ordinary(k);
            }
        }

        private int ordinary(int k) {
            String kind = name + k;
            switch (kind) {
                case "set1": return random.nextInt(a[0] == 3 ? 101 : 11);
                case "saying0": case "topicFor0": return random.nextInt(9);
                case "saying1": return random.nextInt(11);
                case "saying2": return random.nextInt(20) == 0 ? 2 : random.nextInt(2);
                case "alter0": case "sayingOf0": case "heatFor0": return random.nextInt(13);
                case "alter2": return random.nextInt(random.nextBoolean() ? 2 : 11);
                case "hearer0": case "mind1": return random.nextInt(7);
                case "hearer1": case "tender1": return random.nextInt(random.nextInt(4) == 0 ? 102 : 12);
                case "hearer2": case "mind2": return random.nextInt(257);
                case "say0": return random.nextInt(12) == 0 ? random.nextInt(63) : 1 + random.nextInt(3);
                case "chills0": return random.nextInt(33);
                case "arm1": return random.nextInt(random.nextBoolean() ? 63 : 13);
                case "state0": case "many0": return random.nextInt(8);
                case "odds0": return random.nextInt(10);
                case "odds1": return random.nextInt(Math.max(1, Math.min(10, a[0] + 2)));
                case "odds2": case "hope1": case "fits2": return random.nextInt(random.nextInt(9) == 0 ? 3 : 2);
                case "hope0": return random.nextInt(102);
                case "prove1": return random.nextInt(12);
                case "row0": case "alterRow0": return random.nextInt(12);
                case "row1": case "alterRow1": return random.nextInt(4);
                case "alterRow2": return random.nextInt(5);
                case "minds1": return random.nextInt(7);
                case "minds3": return random.nextInt(random.nextInt(5) == 0 ? 10 : 3);
                case "sheet1": return random.nextInt(6) - 1;
                case "sheet2": return random.nextInt(random.nextInt(5) == 0 ? 45 : 8);
                case "put1": case "item2": return random.nextInt(8);
                case "put2": return random.nextInt(3) == 0 ? random.nextInt(600) - 200 : random.nextInt(3) - 1;
                case "item1": return random.nextInt(5);
                case "shelf1": return random.nextInt(4) == 0 ? random.nextInt(4) : random.nextInt(2);
                case "shelf2": return random.nextInt(6);
                case "taken1": return random.nextInt(15);
                case "act2": return random.nextInt(200) - 100;
                case "trace0": return random.nextInt(13);
                default: return random.nextInt(name.startsWith("sheet") || name.startsWith("put") || name.startsWith("item")
                        || name.startsWith("shelf") || name.startsWith("act") || name.startsWith("fits") ? 5 : 9);
            }
        }

        long ask(GooseArms g) {
            switch (name) {
                case "feed": return g.feed(eight, a[0]);
                case "court": return g.court();
                case "set": return g.set(a[0], a[1]);
                case "lawOf": return g.lawOf(a[0]);
                case "saying": return g.saying(a[0], a[1], a[2]);
                case "sayingOf": return g.sayingOf(a[0], a[1]);
                case "alter": return g.alter(a[0], a[1], a[2]);
                case "hearer": return g.hearer(a[0], a[1], a[2]);
                case "of": return g.of(a[0], a[1]);
                case "does": return g.does(a[0], a[1]);
                case "mind": return g.mind(a[0], a[1], a[2]);
                case "tender": return g.tender(a[0], a[1]);
                case "say": return g.say(a[0]);
                case "anew": return g.anew();
                case "seed": return g.seed(a[0]);
                case "draught": return g.draught();
                case "chills": return g.chills(a[0]);
                case "state": return g.state(a[0]);
                case "arm": return g.arm(a[0], a[1]);
                case "raised": return g.raised(a[0]);
                case "right": return g.right(a[0]);
                case "topicFor": return g.topicFor(a[0]);
                case "heatFor": return g.heatFor(a[0], a[1]);
                case "kindFor": return g.kindFor(a[0]);
                case "tenderFor": return g.tenderFor(a[0]);
                case "nextFor": return g.nextFor(a[0]);
                case "enough": return g.enough();
                case "fits": return g.fits(a[0], a[1], a[2]);
                case "odds": return g.odds(a[0], a[1], a[2]);
                case "hope": return g.hope(a[0], a[1]);
                case "prove": return g.prove(a[0], a[1]);
                case "row": return g.row(a[0], a[1]);
                case "alterRow": return g.alterRow(a[0], a[1], a[2]);
                case "judge": return g.judge(a[0]);
                case "minds": return g.minds(a[0], a[1], a[2], a[3]);
                case "sheet": return g.sheet(a[0], a[1], a[2]);
                case "put": return g.put(a[0], a[1], a[2]);
                case "item": return g.item(a[0], a[1], a[2]);
                case "shelf": return g.shelf(a[0], a[1], a[2]);
                case "taken": return g.taken(a[0], a[1]);
                case "act": return g.act(a[0], a[1], a[2]);
                case "trace": return g.trace(a[0]);
                case "many": return g.many(a[0]);
                case "keep": return g.keep();
                default: return g.again();
            }
        }

        long askModel(Model m) {
            try {
                return m.answer(name, eight, a);
            } catch (Refusal refusal) {
                return refusal.code;
            }
        }

        @Override
        public String toString() {
            return name + "(" + (name.equals("feed") ? eight + ", " : "") + a[0] + ", " + a[1] + ", " + a[2] + ", " + a[3] + ")";
        }
    }

    private static final class Refusal extends RuntimeException {
        private static final long serialVersionUID = 1;
        final int code;

        Refusal(int code) {
            super(null, null, false, false);
            this.code = code;
        }
    }

    private static void need(boolean holds, int code) {
        if (!holds) {
            throw new Refusal(code);
        }
    }

    private static void good(boolean holds) {
        need(holds, -1);
    }

    private static boolean in(int v, int least, int most) {
        return least <= v && v <= most;
    }

    private static final class Saying {
        int topic;
        int heat;
        boolean so;

        Saying(int topic, int heat, boolean so) {
            this.topic = topic;
            this.heat = heat;
            this.so = so;
        }

        Saying copy() {
            return new Saying(topic, heat, so);
        }
    }

    private static class Hearer {
        int n;
        int a;
        int mind;
        int arm;

        int kind() {
            return 0;
        }

        int shivers(Case c, int s) {
            Saying saying = c.sayings.get(s);
            return saying.heat + ((mind & 1 << saying.topic) != 0 ? a : 0);
        }

        int needs(Case c) {
            return 6 + c.laws[0];
        }

        int wears(Case c) {
            return c.laws[2];
        }

        int shakes(List<Integer> t, int x) {
            t.add(10);
            return x * 5 + n;
        }

        int reads(List<Integer> t, int x) {
            t.add(11);
            return shakes(t, x) - a;
        }

        int parts(List<Integer> t, int x) {
            t.add(12);
            need(a != n, -15);
            return x / (a - n);
        }

        int swears(List<Integer> t, int x) {
            t.add(13);
            return reads(t, x) ^ 150;
        }

        Hearer copyAs(int kind) {
            Hearer other = ofKind(kind);
            other.n = n;
            other.a = a;
            other.mind = mind;
            other.arm = arm;
            return other;
        }

        static Hearer ofKind(int kind) {
            switch (kind) {
                case 0: return new Hearer();
                case 1: return new Judge();
                case 2: return new Advocate();
                case 3: return new Elder();
                case 4: return new Liar();
                default: return new Horse();
            }
        }
    }

    private static class Judge extends Hearer {
        @Override int kind() {
            return 1;
        }

        @Override int shivers(Case c, int s) {
            return super.shivers(c, s) + (c.sayings.get(s).so ? c.laws[1] : 0);
        }

        @Override int needs(Case c) {
            return super.needs(c) + 2;
        }

        @Override int reads(List<Integer> t, int x) {
            t.add(20);
            return super.reads(t, x) * 2;
        }
    }

    private static class Advocate extends Hearer {
        @Override int kind() {
            return 2;
        }

        @Override int shivers(Case c, int s) {
            return super.shivers(c, s) - 2;
        }

        @Override int needs(Case c) {
            return super.needs(c) - 3;
        }

        @Override int wears(Case c) {
            return super.wears(c) - 2;
        }

        @Override int shakes(List<Integer> t, int x) {
            t.add(30);
            return super.shakes(t, x) - 4;
        }

        @Override int swears(List<Integer> t, int x) {
            t.add(31);
            return super.swears(t, x) + parts(t, n);
        }
    }

    private static final class Elder extends Judge {
        @Override int kind() {
            return 3;
        }

        @Override int shivers(Case c, int s) {
            return super.shivers(c, s) * 2;
        }

        @Override int needs(Case c) {
            return super.needs(c) + a / 10;
        }

        @Override int wears(Case c) {
            return super.wears(c) * 2;
        }

        @Override int parts(List<Integer> t, int x) {
            t.add(50);
            return super.parts(t, x * 3) + 2;
        }

        @Override int shakes(List<Integer> t, int x) {
            t.add(51);
            return super.shakes(t, x) + a;
        }
    }

    private static final class Liar extends Advocate {
        @Override int kind() {
            return 4;
        }

        @Override int shivers(Case c, int s) {
            return super.shivers(c, s) + (c.sayings.get(s).so ? 0 : 9);
        }

        @Override int needs(Case c) {
            return super.needs(c) - c.laws[0];
        }

        @Override int wears(Case c) {
            return super.wears(c) - 1;
        }

        @Override int shakes(List<Integer> t, int x) {
            t.add(40);
            return 0 - super.shakes(t, x);
        }

        @Override int reads(List<Integer> t, int x) {
            t.add(41);
            return super.reads(t, x) ^ shakes(t, a);
        }
    }

    private static final class Horse extends Hearer {
        @Override int kind() {
            return 5;
        }

        @Override int shivers(Case c, int s) {
            return s % 2 == 0 ? super.shivers(c, s) : 0;
        }

        @Override int needs(Case c) {
            return super.needs(c) * 2;
        }

        @Override int wears(Case c) {
            return 0;
        }

        @Override int swears(List<Integer> t, int x) {
            t.add(60);
            return super.swears(t, x) * 2;
        }

        @Override int parts(List<Integer> t, int x) {
            t.add(61);
            return super.parts(t, x) - shakes(t, n);
        }
    }

    private static final class Case {
        int[] laws = {2, 3, 1, 20};
        List<Saying> sayings = new ArrayList<>();
        List<Hearer> hearers = new ArrayList<>();
        int said;
        int z = 1;

        Case copy() {
            Case c = new Case();
            c.laws = laws.clone();
            sayings.forEach(s -> c.sayings.add(s.copy()));
            hearers.forEach(h -> c.hearers.add(h.copyAs(h.kind())));
            c.said = said;
            c.z = z;
            return c;
        }

        int left() {
            return sayings.size() - said;
        }

        void add(int kind, int tender, int mind) {
            Hearer h = Hearer.ofKind(kind);
            h.n = hearers.size();
            h.a = tender;
            h.mind = mind;
            hearers.add(h);
        }

        /** Says the next one, which raises the forced one in any case; answers whom it raised. */
        List<Hearer> sayOne(Hearer forced) {
            List<Hearer> raised = new ArrayList<>();
            for (Hearer h : hearers) {
                if (h == forced || h.shivers(this, said) >= h.needs(this)) {
                    raised.add(h);
                }
            }
            for (Hearer h : raised) {
                h.arm |= 1 << said;
                h.a = Math.min(99, Math.max(0, h.a - h.wears(this)));
            }
            said++;
            return raised;
        }

        Case behind(int n) {
            Case c = copy();
            for (int i = 0; i < n && c.left() > 0; i++) {
                c.sayOne(null);
            }
            return c;
        }

        List<Hearer> byDraws() {
            Hearer forced = null;
            if (!hearers.isEmpty()) {
                z = z * 1103515245 + 12345;
                Hearer one = hearers.get((z >>> 16) % hearers.size());
                z = z * 1103515245 + 12345;
                forced = (z >>> 16) % 100 < laws[3] ? one : null;
            }
            return sayOne(forced);
        }

        int rightOf(int h) {
            Case end = behind(99);
            int count = 0;
            for (int s = 0; s < sayings.size(); s++) {
                boolean on = (end.hearers.get(h).arm >> s & 1) == 1;
                count += on == end.sayings.get(s).so ? 1 : 0;
            }
            return count;
        }

        int raisedBySet(int s) {
            int set = 0;
            for (Hearer h : hearers) {
                set |= (h.arm >> s & 1) << h.n;
            }
            return set;
        }

        int soSet() {
            int set = 0;
            for (int s = 0; s < sayings.size(); s++) {
                set |= sayings.get(s).so ? 1 << s : 0;
            }
            return set;
        }

        int markedSet() {
            int set = 0;
            for (Hearer h : hearers) {
                set |= h.arm != 0 ? 1 << h.n : 0;
            }
            return set;
        }
    }

    /** The least of those from least to most whose value is greatest. */
    private static int best(int least, int most, ToIntFunction<Integer> value) {
        TreeMap<Integer, Integer> leastByValue = new TreeMap<>();
        for (int i = least; i <= most; i++) {
            leastByValue.putIfAbsent(value.applyAsInt(i), i);
        }
        return leastByValue.lastEntry().getValue();
    }

    private static final class Model {
        private static final int[] MOST_LAW = {9, 9, 9, 99};
        private Case c = new Case();
        private Case kept;
        private StringBuilder tape = new StringBuilder();
        private List<int[]> rows = new ArrayList<>();
        private final Object[] sheets = new Object[4];
        private final Object[] shelves = new Object[4];
        private List<Integer> trace = new ArrayList<>();

        long answer(String name, long eight, int[] a) {
            switch (name) {
                case "feed": return feed(eight, a[0]);
                case "court": return court();
                case "set": good(in(a[0], 0, 3) && in(a[1], 0, MOST_LAW[a[0]])); return swap(c.laws, a[0], a[1]);
                case "lawOf": good(in(a[0], 0, 3)); return c.laws[a[0]];
                case "saying": return saying(a[0], a[1], a[2]);
                case "sayingOf": return sayingOf(a[0], a[1]);
                case "alter": return alter(a[0], a[1], a[2]);
                case "hearer": return hearer(a[0], a[1], a[2]);
                case "of": return of(one(a[0]), a[1]);
                case "does": return does(one(a[0]), a[1]);
                case "mind": return mind(a[0], a[1], a[2]);
                case "tender": return tender(a[0], a[1]);
                case "say": return say(a[0]);
                case "anew": return anew();
                case "seed": int was = c.z; c.z = a[0]; return was;
                case "draught": need(c.left() > 0, -3); return c.byDraws().stream().mapToInt(h -> 1 << h.n).sum();
                case "chills": return chills(a[0]);
                case "state": return state(a[0]);
                case "arm": one(a[0]); good(in(a[1], 0, 60)); return c.behind(a[1]).hearers.get(a[0]).arm;
                case "raised": return raised(a[0]);
                case "right": one(a[0]); return c.rightOf(a[0]);
                case "topicFor": return topicFor(a[0]);
                case "heatFor": return heatFor(a[0], a[1]);
                case "kindFor": one(a[0]); return best(0, 5, k -> changed(a[0], k, -1).rightOf(a[0]));
                case "tenderFor": one(a[0]); return best(0, 99, t -> changed(a[0], -1, t).rightOf(a[0]));
                case "nextFor": return nextFor(a[0]);
                case "enough": return enough();
                case "fits": return fits(a[0], a[1], a[2]);
                case "odds": return odds(a[0], a[1], a[2]);
                case "hope": good(in(a[0], 0, 99) && in(a[1], 0, 1)); return part(a[0] * c.laws[3], 100, a[1]);
                case "prove": return prove(a[0], a[1]);
                case "row": need(in(a[0], 0, rows.size() - 1) && in(a[1], 0, 2), -9); return rows.get(a[0])[a[1]];
                case "alterRow": need(in(a[0], 0, rows.size() - 1) && in(a[1], 0, 2), -9); return swap(rows.get(a[0]), a[1], a[2]);
                case "judge": return judge(a[0]);
                default: return answerOfThings(name, a);
            }
        }

        private long answerOfThings(String name, int[] a) {
            switch (name) {
                case "minds": return minds(a[0], a[1], a[2], a[3]);
                case "sheet": return sheet(a[0], a[1], a[2]);
                case "put": return put(a[0], a[1], a[2]);
                case "item": return item(a[0], a[1], a[2]);
                case "shelf": return shelf(a[0], a[1], a[2]);
                case "taken": return taken(a[0], a[1]);
                case "act": return act(a[0], a[1], a[2]);
                case "trace": need(in(a[0], 0, trace.size() - 1), -3); return trace.get(a[0]);
                case "many": return many(a[0]);
                case "keep": kept = c.copy(); return 1;
                case "again": need(kept != null, -3); c = kept.copy(); return c.hearers.size();
                default: throw new IllegalStateException(name);
            }
        }

        private static int swap(int[] row, int i, int v) {
            int was = row[i];
            row[i] = v;
            return was;
        }

        private Hearer one(int h) {
            good(in(h, 0, c.hearers.size() - 1));
            return c.hearers.get(h);
        }

        private Saying said(int s) {
            good(in(s, 0, c.sayings.size() - 1));
            return c.sayings.get(s);
        }

        private int feed(long eight, int n) {
            good(in(n, 1, 8));
            need(tape.length() + n <= 200, -2);
            for (int i = 0; i < n; i++) {
                tape.append((char) (eight >> 8 * i & 255));
            }
            return tape.length();
        }

        private int court() {
            String text = tape.toString();
            tape = new StringBuilder();
            Case next = new TextModel(text).read();
            next.z = c.z;
            c = next;
            rows = new ArrayList<>();
            return c.hearers.size();
        }

        private int saying(int topic, int heat, int so) {
            good(in(topic, 0, 7) && in(heat, 0, 9) && in(so, 0, 1));
            need(c.sayings.size() < 12, -2);
            c.sayings.add(new Saying(topic, heat, so == 1));
            return c.sayings.size() - 1;
        }

        private int sayingOf(int s, int what) {
            Saying saying = said(s);
            good(in(what, 0, 3));
            return new int[] {saying.topic, saying.heat, saying.so ? 1 : 0, c.raisedBySet(s)}[what];
        }

        private int alter(int s, int what, int v) {
            Saying saying = said(s);
            good(in(what, 0, 2) && in(v, 0, new int[] {7, 9, 1}[what]));
            int was = sayingOf(s, what);
            saying.topic = what == 0 ? v : saying.topic;
            saying.heat = what == 1 ? v : saying.heat;
            saying.so = what == 2 ? v == 1 : saying.so;
            return was;
        }

        private int hearer(int kind, int tender, int mind) {
            good(in(kind, 0, 5) && in(tender, 0, 99) && in(mind, 0, 255));
            need(c.hearers.size() < 8, -2);
            c.add(kind, tender, mind);
            return c.hearers.size() - 1;
        }

        private int of(Hearer h, int what) {
            good(in(what, 0, 3));
            return new int[] {h.kind(), h.a, h.mind, h.arm}[what];
        }

        private int does(Hearer h, int what) {
            good(in(what, 0, 2));
            return 1000 + (what == 1 ? h.needs(c) : what == 2 ? h.wears(c) : c.left() == 0 ? 0 : h.shivers(c, c.said));
        }

        private int mind(int h, int kind, int mind) {
            Hearer was = one(h);
            good(in(kind, 0, 5) && in(mind, 0, 255));
            c.hearers.set(h, was.copyAs(kind));
            c.hearers.get(h).mind = mind;
            return was.kind();
        }

        private int tender(int h, int v) {
            Hearer one = one(h);
            good(in(v, 0, 99));
            int was = one.a;
            one.a = v;
            return was;
        }

        private int say(int n) {
            good(in(n, 1, 60));
            int before = c.said;
            c = c.behind(n);
            return c.said - before;
        }

        private int anew() {
            int was = c.said;
            c.said = 0;
            c.hearers.forEach(h -> h.arm = 0);
            return was;
        }

        private int chills(int n) {
            good(in(n, 1, 30));
            if (c.left() == 0) {
                return 0;
            }
            int plain = c.copy().sayOne(null).size();
            int z = c.z;
            int count = 0;
            for (int i = 0; i < n; i++) {
                Case tried = c.copy();
                tried.z = z;
                count += tried.byDraws().size() > plain ? 1 : 0;
                z = tried.z;
            }
            return count;
        }

        private int state(int what) {
            good(in(what, 0, 5));
            switch (what) {
                case 0: return c.said;
                case 1: return c.sayings.size();
                case 2: return c.soSet();
                case 3: return c.hearers.stream().mapToInt(h -> h.a).sum();
                case 4: return c.markedSet();
                default: break;
            }
            List<Hearer> end = c.behind(99).hearers;
            return (int) end.stream().mapToLong(h -> end.stream().filter(o -> o.arm == h.arm).count()).max().orElse(0);
        }

        private int raised(int h) {
            one(h);
            int n = 0;
            while (n <= c.left() && c.behind(n).hearers.get(h).arm == 0) {
                n++;
            }
            need(n <= c.left(), -3);
            return n;
        }

        private Case changed(int h, int kind, int tender) {
            Case tried = c.copy();
            Hearer one = tried.hearers.get(h).copyAs(kind < 0 ? c.hearers.get(h).kind() : kind);
            one.a = tender < 0 ? one.a : tender;
            tried.hearers.set(h, one);
            return tried;
        }

        private int topicFor(int s) {
            said(s);
            need(s >= c.said, -3);
            return best(0, 7, t -> {
                Case tried = c.copy();
                tried.sayings.get(s).topic = t;
                return Integer.bitCount(tried.behind(99).raisedBySet(s));
            });
        }

        private int heatFor(int s, int h) {
            said(s);
            one(h);
            need(s >= c.said, -3);
            int heat = best(0, 9, v -> {
                Case tried = c.copy();
                tried.sayings.get(s).heat = v;
                return tried.behind(99).raisedBySet(s) >> h & 1;
            });
            Case tried = c.copy();
            tried.sayings.get(s).heat = heat;
            need((tried.behind(99).raisedBySet(s) >> h & 1) == 1, -3);
            return heat;
        }

        private int nextFor(int h) {
            one(h);
            need(c.left() > 0, -3);
            return best(c.said, c.sayings.size() - 1, s -> {
                Case tried = c.copy();
                java.util.Collections.swap(tried.sayings, c.said, s);
                return tried.rightOf(h);
            });
        }

        private int enough() {
            Case end = c.behind(99);
            for (int size = 0; size <= 8; size++) {
                for (int set = 0; set < 1 << end.hearers.size(); set++) {
                    int covered = 0;
                    for (Hearer h : end.hearers) {
                        covered |= (set >> h.n & 1) == 1 ? h.arm : 0;
                    }
                    if (Integer.bitCount(set) == size && (covered & end.soSet()) == end.soSet()) {
                        return set;
                    }
                }
            }
            return -3;
        }

        private int fits(int sheet, int h, int what) {
            good(in(sheet, 0, 3));
            one(h);
            good(in(what, 0, 1));
            Object row = sheets[sheet];
            need(row != null, -11);
            List<Integer> all = new ArrayList<>();
            for (int t = 0; t <= 99; t++) {
                Case tried = changed(h, -1, t);
                boolean fits = true;
                for (int i = 0; i < java.lang.reflect.Array.getLength(row) && tried.left() > 0; i++) {
                    boolean raised = tried.sayOne(null).contains(tried.hearers.get(h));
                    long asked = java.lang.reflect.Array.getLong(row, i);
                    fits &= asked == -1 || asked == 1 && raised || asked == 0 && !raised;
                }
                if (fits) {
                    all.add(t);
                }
            }
            need(what == 0 || !all.isEmpty(), -3);
            return what == 0 ? all.size() : all.get(0);
        }

        private static long part(long above, long below, int part) {
            BigInteger a = BigInteger.valueOf(above);
            BigInteger b = BigInteger.valueOf(below);
            return (part == 0 ? a : b).divide(a.gcd(b)).longValueExact();
        }

        private long odds(int n, int k, int part) {
            good(in(n, 0, 8) && in(k, 0, n) && in(part, 0, 1));
            // day by day: how many of 100^n cases have just j draughts
            long[] cases = new long[10];
            cases[0] = 1;
            long all = 1;
            for (int day = 0; day < n; day++) {
                for (int j = 9; j >= 0; j--) {
                    cases[j] = cases[j] * (100 - c.laws[3]) + (j > 0 ? cases[j - 1] * c.laws[3] : 0);
                }
                all *= 100;
            }
            return part(cases[k], all, part);
        }

        private List<int[]> rowsOf(int h, int n) {
            List<int[]> list = new ArrayList<>();
            Case tried = c.copy();
            for (int i = 0; i < n && tried.left() > 0; i++) {
                int count = tried.sayOne(null).size();
                list.add(new int[] {tried.hearers.get(h).arm, tried.hearers.get(h).a, count});
            }
            return list;
        }

        private int prove(int h, int n) {
            one(h);
            good(in(n, 1, 10));
            rows = rowsOf(h, n);
            return rows.size();
        }

        private int judge(int h) {
            one(h);
            List<int[]> must = rowsOf(h, rows.size());
            for (int i = 0; i < rows.size(); i++) {
                if (i >= must.size() || !java.util.Arrays.equals(rows.get(i), must.get(i))) {
                    return i + 1;
                }
            }
            return 0;
        }

        private int minds(int sheet, int i, int h, int n) {
            good(in(sheet, 0, 3));
            one(h);
            good(in(n, 0, 8) && h + n <= c.hearers.size());
            need(sheets[sheet] != null, -11);
            need(sheets[sheet] instanceof byte[], -13);
            byte[] bytes = (byte[]) sheets[sheet];
            need(in(i, 0, bytes.length) && n <= bytes.length - i, -12);
            for (int k = 0; k < n; k++) {
                c.hearers.get(h + k).a = Math.min(99, Math.max(0, bytes[i + k]));
            }
            return n;
        }

        private int sheet(int sheet, int sort, int n) {
            good(in(sheet, 0, 3) && in(sort, -1, 3) && (sort == -1 || n <= 40));
            need(sort == -1 || n >= 0, -14);
            switch (sort) {
                case -1: sheets[sheet] = null; break;
                case 0: sheets[sheet] = new byte[n]; break;
                case 1: sheets[sheet] = new short[n]; break;
                case 2: sheets[sheet] = new int[n]; break;
                default: sheets[sheet] = new long[n]; break;
            }
            return 1;
        }

        private int put(int sheet, int i, int v) {
            good(in(sheet, 0, 3));
            Object row = sheets[sheet];
            need(row != null, -11);
            need(in(i, 0, java.lang.reflect.Array.getLength(row) - 1), -12);
            if (row instanceof byte[]) {
                ((byte[]) row)[i] = (byte) v;
            } else if (row instanceof short[]) {
                ((short[]) row)[i] = (short) v;
            } else if (row instanceof int[]) {
                ((int[]) row)[i] = v;
            } else {
                ((long[]) row)[i] = v;
            }
            return 1;
        }

        private static int sortOf(Object row) {
            return row instanceof byte[] ? 0 : row instanceof short[] ? 1 : row instanceof int[] ? 2 : 3;
        }

        private int item(int sheet, int sort, int i) {
            good(in(sheet, 0, 3) && in(sort, 0, 3));
            Object row = sheets[sheet];
            need(row != null, -11);
            need(sortOf(row) == sort, -13);
            need(in(i, 0, java.lang.reflect.Array.getLength(row) - 1), -12);
            return (int) java.lang.reflect.Array.getLong(row, i);
        }

        private int shelf(int shelf, int what, int n) {
            good(in(shelf, 0, 3) && in(what, 0, 2));
            if (what == 0) {
                one(n);
                shelves[shelf] = n;
            } else if (what == 1) {
                good(in(n, 0, 3));
                shelves[shelf] = sheets[n];
            } else {
                shelves[shelf] = null;
            }
            return 1;
        }

        /** One of the hearers, a row, or null. */
        private Object thingOn(int shelf) {
            Object held = shelves[shelf];
            if (held instanceof Integer) {
                int h = (Integer) held;
                return h < c.hearers.size() ? c.hearers.get(h) : null;
            }
            return held;
        }

        private int taken(int shelf, int as) {
            good(in(shelf, 0, 3) && (in(as, 0, 5) || in(as, 10, 13)));
            Object thing = thingOn(shelf);
            need(thing != null, -11);
            if (as >= 10) {
                need(!(thing instanceof Hearer) && sortOf(thing) == as - 10, -13);
                return java.lang.reflect.Array.getLength(thing);
            }
            Class<?>[] classes = {Hearer.class, Judge.class, Advocate.class, Elder.class, Liar.class, Horse.class};
            need(classes[as].isInstance(thing), -13);
            return ((Hearer) thing).n;
        }

        private int act(int shelf, int act, int x) {
            trace = new ArrayList<>();
            if (!in(shelf, 0, 3) || !in(act, 0, 3) || !(thingOn(shelf) instanceof Hearer)) {
                return 0;
            }
            Hearer h = (Hearer) thingOn(shelf);
            switch (act) {
                case 0: return h.shakes(trace, x);
                case 1: return h.reads(trace, x);
                case 2: return h.parts(trace, x);
                default: return h.swears(trace, x);
            }
        }

        private int many(int what) {
            good(in(what, 0, 6));
            return new int[] {c.hearers.size(), c.left(), Integer.bitCount(c.soSet()), Integer.bitCount(c.markedSet()),
                rows.size(), tape.length(), trace.size()}[what];
        }
    }

    /** The text, cut into words by a regular expression. */
    private static final class TextModel {
        private static final Pattern WORD = Pattern.compile("[a-z]+|[0-9]+|[^ ]", Pattern.DOTALL);
        private static final List<String> KINDS = List.of("hearer", "judge", "advocate", "elder", "liar", "horse");
        private static final List<String> LAWS = List.of("cold", "oath", "wear", "draught");
        private final List<String> words = new ArrayList<>();
        private final List<Integer> places = new ArrayList<>();
        private int at;

        TextModel(String text) {
            Matcher m = WORD.matcher(text);
            while (m.find()) {
                words.add(m.group());
                places.add(m.start());
            }
            words.add("");
            places.add(text.length());
        }

        Case read() {
            Case c = new Case();
            while (!words.get(at).isEmpty()) {
                statement(c);
                must(words.get(at).equals(";"));
                at++;
            }
            return c;
        }

        private void must(boolean holds) {
            need(holds, -100 - places.get(at));
        }

        private void statement(Case c) {
            String word = words.get(at);
            if (word.equals("say")) {
                must(c.sayings.size() < 12);
                at++;
                int topic = number(7);
                int heat = optional("heat", 9, 5);
                boolean so = words.get(at).equals("so");
                at += so ? 1 : 0;
                c.sayings.add(new Saying(topic, heat, so));
            } else if (LAWS.contains(word)) {
                at++;
                c.laws[LAWS.indexOf(word)] = number(word.equals("draught") ? 99 : 9);
            } else {
                must(KINDS.contains(word) && c.hearers.size() < 8);
                at++;
                int tender = optional("tender", 99, 3);
                c.add(KINDS.indexOf(word), tender, optional("minds", 255, 255));
            }
        }

        private int optional(String name, int most, int without) {
            if (!words.get(at).equals(name)) {
                return without;
            }
            at++;
            return number(most);
        }

        private int number(int most) {
            String word = words.get(at);
            must(word.matches("[0-9]{1,3}") && Integer.parseInt(word) <= most);
            at++;
            return Integer.parseInt(word);
        }
    }
}
