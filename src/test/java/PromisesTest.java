import java.nio.charset.StandardCharsets;

/** For each promise: ordinary inputs, the edges that the document names, and wrong inputs; answers worked out by hand. */
public final class PromisesTest {
    private static final int BAD = -1, FULL = -2, NONE = -3;
    private static final int MIN = Integer.MIN_VALUE, MAX = Integer.MAX_VALUE;
    private static int wrong = 0;
    private static int checked = 0;
    private static int promise = 0;

    public static void main(String[] args) {
        newObject(); feed(); court(); courtDefaults(); courtFaults(); courtLimits();
        laws(); saying(); sayingOf(); alter(); hearer(); of(); does(); mind(); tender();
        say(); sayWears(); anew(); seed(); draught(); chills(); state();
        arm(); raised(); right(); topicFor(); heatFor(); kindFor(); tenderFor(); nextFor(); enough(); fits(); odds(); hope();
        prove(); row(); alterRow(); judge(); minds(); sheet(); put(); item(); shelf(); taken();
        act(); actParts(); trace(); many(); keep(); again();
        System.out.println(checked + " answers looked at, " + wrong + " not as due");
        if (wrong != 0) {
            System.exit(1);
        }
    }

    private static void due(String what, long got, long want) {
        checked++;
        if (got != want) {
            wrong++;
            if (wrong <= 20) {
                System.out.println("promise " + promise + ", " + what + ": answered " + got + ", due is " + want);
            }
        }
    }

    private static int feedText(GooseArms g, String text) {
        byte[] bytes = text.getBytes(StandardCharsets.ISO_8859_1);
        int last = 0;
        for (int i = 0; i < bytes.length; i += 8) {
            long eight = 0;
            int n = Math.min(8, bytes.length - i);
            for (int k = 0; k < n; k++) {
                eight |= (bytes[i + k] & 255L) << 8 * k;
            }
            last = g.feed(eight, n);
        }
        return last;
    }

    private static int told(GooseArms g, String text) {
        feedText(g, text);
        return g.court();
    }

    private static GooseArms courtOf(String text) {
        GooseArms g = new GooseArms();
        int answer = told(g, text);
        if (answer < 0) {
            due("the test's own text " + text, answer, 0);
        }
        return g;
    }

    private static void fault(String text, int place) {
        due("fault of '" + text + "'", told(new GooseArms(), text), -100 - place);
    }

    private static void newObject() {
        promise = 1;
        GooseArms g = new GooseArms();
        for (int what = 0; what <= 6; what++) {
            due("many " + what, g.many(what), 0);
        }
        for (int what = 0; what <= 5; what++) {
            due("state " + what, g.state(what), 0);
        }
        due("again", g.again(), NONE);
        due("z", g.seed(0), 1);
        int[] laws = {2, 3, 1, 20};
        for (int law = 0; law < 4; law++) {
            due("law " + law, g.lawOf(law), laws[law]);
            due("sheet " + law, g.item(law, 0, 0), -11);
            due("shelf " + law, g.taken(law, 0), -11);
        }
        due("BAD", GooseArms.BAD, -1);
        due("FULL", GooseArms.FULL, -2);
        due("NONE", GooseArms.NONE, -3);
    }

    private static void feed() {
        promise = 2;
        GooseArms g = new GooseArms();
        due("no bytes", g.feed(0, 0), BAD);
        due("nine bytes", g.feed(0, 9), BAD);
        due("least int", g.feed(0, MIN), BAD);
        due("greatest int", g.feed(0, MAX), BAD);
        due("one", g.feed(' ', 1), 1);
        // only the lowest two bytes count, the lowest first: "; " is a fault at 1, " ;" would be one at 2
        due("two of eight", g.feed(0x7878787878782000L + ';', 2), 3);
        due("fault", g.court(), -101);
        for (int i = 1; i <= 24; i++) {
            due("eight bytes", g.feed(0x2020202020202020L, 8), 8 * i);
        }
        due("199", g.feed(0x20202020202020L, 7), 199);
        due("one too many", g.feed(0x2020, 2), FULL);
        due("nine bytes when nearly full", g.feed(0, 9), BAD);
        due("none of them came", g.many(5), 199);
        due("200", g.feed(0x20, 1), 200);
        due("201", g.feed(0x20, 1), FULL);
        due("blanks alone", g.court(), 0);
        due("used up", g.feed(0x20, 1), 1);
    }

    private static void court() {
        promise = 3;
        GooseArms g = new GooseArms();
        due("nothing told", g.court(), 0);
        g.hearer(5, 9, 9);
        g.saying(1, 2, 1);
        g.set(0, 9);
        g.seed(77);
        g.keep();
        due("a text", told(g, "  say 3 heat 4 so ; say 007;horse tender 99 minds 0; cold 0;oath 9;wear 2;draught 99; "), 1);
        due("topic", g.sayingOf(0, 0), 3);
        due("heat", g.sayingOf(0, 1), 4);
        due("so", g.sayingOf(0, 2), 1);
        due("sayings", g.state(1), 2);
        due("topic 7", g.sayingOf(1, 0), 7);
        due("heat without", g.sayingOf(1, 1), 5);
        due("so without", g.sayingOf(1, 2), 0);
        due("kind", g.of(0, 0), 5);
        due("tender", g.of(0, 1), 99);
        due("mind", g.of(0, 2), 0);
        int[] laws = {0, 9, 2, 99};
        for (int law = 0; law < 4; law++) {
            due("law " + law, g.lawOf(law), laws[law]);
        }
        due("z stays", g.seed(77), 77);
        due("what is kept stays", g.again(), 1);
        due("heat kept", g.sayingOf(0, 1), 2);
        due("no tape any more", g.many(5), 0);
    }

    private static void courtDefaults() {
        promise = 3;
        GooseArms g = courtOf("say 0 heat 9;hearer;judge minds 7;elder tender 4 minds 1;");
        g.say(1);
        due("said", g.state(0), 1);
        g.prove(0, 1);
        g.set(1, 7);
        due("rows none left", g.many(4), 0);
        g.anew();
        due("rows", g.prove(0, 1), 1);
        due("a text that is not", told(g, "hearer;hearer"), -113);
        due("rows stay", g.many(4), 1);
        due("all stays", g.many(0), 3);
        due("law stays", g.lawOf(1), 7);
        due("tape is used up all the same", g.many(5), 0);
        g.say(1);
        due("another text", told(g, "say 1;judge;"), 1);
        due("no rows then", g.many(4), 0);
        due("no row 0", g.row(0, 0), -9);
        due("said as at first", g.state(0), 0);
        due("law as at first", g.lawOf(1), 3);
        due("tender without", g.of(0, 1), 3);
        due("mind without", g.of(0, 2), 255);
        due("arm bare", g.of(0, 3), 0);
        String[] kinds = {"hearer", "judge", "advocate", "elder", "liar", "horse"};
        for (int kind = 0; kind < 6; kind++) {
            due("one", told(g, kinds[kind] + " tender 5;"), 1);
            due("of the kind " + kind, g.of(0, 0), kind);
        }
    }

    private static void courtFaults() {
        promise = 3;
        fault("say", 3);
        fault("say ", 4);
        fault("say 1", 5);
        fault("say 1 ;;", 7);
        fault(";", 0);
        fault("say 8;", 4);
        fault("say 1000;", 4);
        fault("say 0001;", 4);
        fault("say 12345678901234567890;", 4);
        fault("say 1 heat 10;", 11);
        fault("say 1 heat;", 10);
        fault("say 1 so heat 3;", 9);
        fault("say 1 heat 3 heat 3;", 13);
        fault("say 1 so so;", 9);
        fault("says 1;", 0);
        fault("sayz 1;", 0);
        fault("asay 1;", 0);
        fault("say{1;", 3);
        fault("say`1;", 3);
        fault("say 1:", 5);
        fault("say 1/", 5);
        fault("  sa", 2);
        fault("Say 1;", 0);
        fault("say 1,", 5);
        fault("say -1;", 4);
        fault("say 1 x", 6);
        fault("say so;", 4);
        fault("say ;", 4);
        fault("7", 0);
        fault("heat 3;", 0);
        fault("so;", 0);
        fault("hearer tender 100;", 14);
        fault("hearer minds 256;", 13);
        fault("hearer minds 1 tender 1;", 15);
        fault("hearer tender 1 tender 2;", 16);
        fault("hearer 3;", 7);
        fault("hearer judge;", 7);
        fault("hearers;", 0);
        fault("hear er;", 0);
        fault("cold 10;", 5);
        fault("cold;", 4);
        fault("cold 1 2;", 7);
        fault("oath 10;", 5);
        fault("wear 10;", 5);
        fault("draught 100;", 8);
        fault("draught", 7);
        fault("say 1;\n", 6);
        fault("say\t1;", 3);
        fault("say 1;" + (char) 233, 6);
        fault("say 1;" + (char) 0, 6);
        fault("cold 3; cold 4; wear 1 ; oath 3; x", 33);
        due("said twice, the later holds", courtOf("cold 3;cold 4;").lawOf(0), 4);
        due("no blanks needed", told(new GooseArms(), "say3heat9so;judge tender4minds3;"), 1);
    }

    private static void courtLimits() {
        promise = 3;
        String twelve = "say 0;say 1;say 2;say 3;say 4;say 5;say 6;say 7;say 0;say 1;say 2;say 3;";
        due("twelve sayings", courtOf(twelve).state(1), 12);
        fault(twelve + " say 9;", 73);
        String eight = "liar;liar;liar;liar;liar;liar;liar;liar;";
        due("eight hearers", told(new GooseArms(), eight), 8);
        fault(eight + "horse", 40);
        due("both", told(new GooseArms(), eight + twelve), 8);
    }

    private static void laws() {
        promise = 4;
        GooseArms g = new GooseArms();
        int[] most = {9, 9, 9, 99};
        int[] first = {2, 3, 1, 20};
        for (int law = 0; law < 4; law++) {
            due("too little", g.set(law, -1), BAD);
            due("too much", g.set(law, most[law] + 1), BAD);
            due("greatest", g.set(law, most[law]), first[law]);
            due("least", g.set(law, 0), most[law]);
            due("again", g.set(law, law), 0);
        }
        due("no law below", g.set(-1, 0), BAD);
        due("no law above", g.set(4, 0), BAD);
        due("no law at all", g.set(MIN, 0), BAD);
        promise = 5;
        for (int law = 0; law < 4; law++) {
            due("law " + law, g.lawOf(law), law);
        }
        due("no law below", g.lawOf(-1), BAD);
        due("no law above", g.lawOf(4), BAD);
        due("no law far above", g.lawOf(MAX), BAD);
    }

    private static void saying() {
        promise = 6;
        GooseArms g = new GooseArms();
        due("topic below", g.saying(-1, 0, 0), BAD);
        due("topic above", g.saying(8, 0, 0), BAD);
        due("heat below", g.saying(0, -1, 0), BAD);
        due("heat above", g.saying(0, 10, 0), BAD);
        due("so below", g.saying(0, 0, -1), BAD);
        due("so above", g.saying(0, 0, 2), BAD);
        due("none came", g.many(1), 0);
        for (int i = 0; i < 12; i++) {
            due("one more", g.saying(i % 8, i % 10, i % 2), i);
        }
        due("the thirteenth", g.saying(0, 0, 0), FULL);
        due("a wrong thirteenth", g.saying(8, 0, 0), BAD);
        due("twelve", g.state(1), 12);
        due("the twelfth's topic", g.sayingOf(11, 0), 3);
    }

    private static void sayingOf() {
        promise = 7;
        GooseArms g = courtOf("say 4 heat 9 so;say 2 heat 8;hearer minds 0;horse minds 0;liar minds 0;");
        due("topic", g.sayingOf(0, 0), 4);
        due("heat", g.sayingOf(0, 1), 9);
        due("so", g.sayingOf(0, 2), 1);
        due("not so", g.sayingOf(1, 2), 0);
        due("nobody yet", g.sayingOf(0, 3), 0);
        g.say(2);
        // 9: hearer needs 8, horse 16, liar shivers 7 of 3; 8: hearer yes, horse at an odd number no, liar yes
        due("whom the first raised", g.sayingOf(0, 3), 5);
        due("whom the second raised", g.sayingOf(1, 3), 5);
        due("what below", g.sayingOf(0, -1), BAD);
        due("what above", g.sayingOf(0, 4), BAD);
        due("saying below", g.sayingOf(-1, 0), BAD);
        due("saying above", g.sayingOf(2, 0), BAD);
    }

    private static void alter() {
        promise = 8;
        GooseArms g = courtOf("say 4 heat 9 so;");
        due("topic", g.alter(0, 0, 7), 4);
        due("topic now", g.sayingOf(0, 0), 7);
        due("heat", g.alter(0, 1, 0), 9);
        due("heat now", g.alter(0, 1, 9), 0);
        due("so", g.alter(0, 2, 0), 1);
        due("so now", g.sayingOf(0, 2), 0);
        int[] above = {8, 10, 2};
        for (int what = 0; what < 3; what++) {
            due("too much", g.alter(0, what, above[what]), BAD);
            due("too little", g.alter(0, what, -1), BAD);
        }
        due("whom it raised is not to be altered", g.alter(0, 3, 0), BAD);
        due("what below", g.alter(0, -1, 0), BAD);
        due("no such saying", g.alter(1, 0, 0), BAD);
        due("no such saying below", g.alter(-1, 0, 0), BAD);
        due("topic stays", g.sayingOf(0, 0), 7);
        due("heat stays", g.sayingOf(0, 1), 9);
    }

    private static void hearer() {
        promise = 9;
        GooseArms g = new GooseArms();
        due("kind below", g.hearer(-1, 0, 0), BAD);
        due("kind above", g.hearer(6, 0, 0), BAD);
        due("tender below", g.hearer(0, -1, 0), BAD);
        due("tender above", g.hearer(0, 100, 0), BAD);
        due("mind below", g.hearer(0, 0, -1), BAD);
        due("mind above", g.hearer(0, 0, 256), BAD);
        g.saying(0, 9, 0);
        g.hearer(0, 0, 0);
        g.say(1);
        g.court();
        for (int i = 0; i < 8; i++) {
            due("one more", g.hearer(i % 6, 99 - i, 255 - i), i);
            due("its bare arm", g.of(i, 3), 0);
        }
        due("the ninth", g.hearer(0, 0, 0), FULL);
        due("a wrong ninth", g.hearer(0, 0, 256), BAD);
        due("eight", g.many(0), 8);
    }

    private static void of() {
        promise = 10;
        GooseArms g = courtOf("say 0 heat 1;say 1 heat 9;liar tender 12 minds 33;");
        due("kind", g.of(0, 0), 4);
        due("tender", g.of(0, 1), 12);
        due("mind", g.of(0, 2), 33);
        g.set(2, 3);
        g.say(2);
        due("arm", g.of(0, 3), 3);
        due("what below", g.of(0, -1), BAD);
        due("what above", g.of(0, 4), BAD);
        due("no such one", g.of(1, 0), BAD);
        due("no such one below", g.of(-1, 0), BAD);
    }

    private static void doesAll(GooseArms g, int kind, int shivers, int needs, int wears) {
        g.mind(0, kind, 1);
        due("kind " + kind + " shivers", g.does(0, 0), 1000 + shivers);
        due("kind " + kind + " needs", g.does(0, 1), 1000 + needs);
        due("kind " + kind + " wears", g.does(0, 2), 1000 + wears);
    }

    private static void does() {
        promise = 11;
        GooseArms g = courtOf("say 0 heat 7;say 0 heat 7 so;say 1 heat 7;hearer tender 29 minds 1;cold 4;oath 5;wear 6;");
        // saying 0: 7 and 29, not so, an even number
        doesAll(g, 0, 36, 10, 6);
        doesAll(g, 1, 36, 12, 6);
        doesAll(g, 2, 34, 7, 4);
        doesAll(g, 3, 72, 14, 12);
        doesAll(g, 4, 43, 3, 3);
        doesAll(g, 5, 36, 20, 0);
        g.set(2, 0);
        // saying 1: as hot, so, an odd number; wear 0
        g.say(1);
        g.tender(0, 29);
        doesAll(g, 0, 36, 10, 0);
        doesAll(g, 1, 41, 12, 0);
        doesAll(g, 2, 34, 7, -2);
        doesAll(g, 3, 82, 14, 0);
        doesAll(g, 4, 34, 3, -3);
        doesAll(g, 5, 0, 20, 0);
        g.say(1);
        g.tender(0, 9);
        // saying 2: of another topic
        doesAll(g, 0, 7, 10, 0);
        doesAll(g, 3, 14, 12, 0);
        doesAll(g, 5, 7, 20, 0);
        g.say(1);
        doesAll(g, 3, 0, 12, 0);
        due("no such one", g.does(1, 0), BAD);
        due("no such one below", g.does(-1, 0), BAD);
        due("what below", g.does(0, -1), BAD);
        due("what above", g.does(0, 3), BAD);
    }

    private static void mind() {
        promise = 12;
        GooseArms g = courtOf("say 0 heat 9;hearer tender 31 minds 1;");
        g.say(1);
        due("another kind", g.mind(0, 5, 8), 0);
        due("kind now", g.of(0, 0), 5);
        due("mind now", g.of(0, 2), 8);
        due("tender stays", g.of(0, 1), 30);
        due("arm stays", g.of(0, 3), 1);
        due("the same kind", g.mind(0, 5, 255), 5);
        due("kind below", g.mind(0, -1, 0), BAD);
        due("kind above", g.mind(0, 6, 0), BAD);
        due("mind below", g.mind(0, 0, -1), BAD);
        due("mind above", g.mind(0, 0, 256), BAD);
        due("no such one", g.mind(1, 0, 0), BAD);
        due("kind stays", g.of(0, 0), 5);
        due("mind stays", g.of(0, 2), 255);
    }

    private static void tender() {
        promise = 13;
        GooseArms g = courtOf("hearer;");
        due("greatest", g.tender(0, 99), 3);
        due("least", g.tender(0, 0), 99);
        due("too much", g.tender(0, 100), BAD);
        due("too little", g.tender(0, -1), BAD);
        due("no such one", g.tender(1, 5), BAD);
        due("no such one below", g.tender(-1, 5), BAD);
        due("stays", g.of(0, 1), 0);
    }

    private static void say() {
        promise = 14;
        GooseArms g = courtOf("say 0 heat 8;say 0 heat 7;say 0 heat 9;say 0 heat 9;hearer minds 0;");
        due("none", g.say(0), BAD);
        due("below", g.say(-1), BAD);
        due("61", g.say(61), BAD);
        due("nothing said", g.state(0), 0);
        due("one", g.say(1), 1);
        due("just as much as it needs", g.of(0, 3), 1);
        due("one", g.say(1), 1);
        due("less than it needs", g.of(0, 3), 1);
        due("as many as are left", g.say(60), 2);
        due("arm", g.of(0, 3), 13);
        due("none left", g.say(5), 0);
        g.saying(0, 9, 1);
        due("one came", g.say(5), 1);
        due("arm", g.of(0, 3), 29);
    }

    private static void sayWears() {
        promise = 14;
        // cold 2, wear 1: the advocate (needs 5) grows tenderer by 1, the liar (needs 3) by 2, the horse (16) stays
        GooseArms g = courtOf("say 0 heat 9;say 0;elder tender 1;advocate tender 98;liar tender 98;horse tender 7;judge tender 0;");
        g.say(1);
        due("elder, held to 0", g.of(0, 1), 0);
        due("advocate", g.of(1, 1), 99);
        due("liar, held to 99", g.of(2, 1), 99);
        due("horse", g.of(3, 1), 7);
        due("judge that shivers 9 of 10", g.of(4, 1), 0);
        due("whom it raised", g.sayingOf(0, 3), 15);
        g.say(1);
        due("advocate, held to 99", g.of(1, 1), 99);
        due("whom it raised", g.sayingOf(1, 3), 7);
        // as that begins: the elder shivers 2 * 10 and needs 10, though its tenderness is less behind it
        GooseArms one = courtOf("say 0 heat 2;say 0 heat 2;elder tender 3;wear 9;");
        one.say(1);
        due("just enough", one.of(0, 3), 1);
        due("worn", one.of(0, 1), 0);
        one.say(1);
        due("no more", one.of(0, 3), 1);
    }

    private static void anew() {
        promise = 15;
        GooseArms g = courtOf("say 0 heat 9;say 0 heat 9;hearer tender 9;judge tender 9;");
        due("nothing said yet", g.anew(), 0);
        g.say(2);
        due("two said", g.anew(), 2);
        due("said", g.state(0), 0);
        due("arms are bare", g.state(4), 0);
        due("tender stays", g.of(0, 1), 7);
        due("sayings stay", g.many(1), 2);
    }

    private static void seed() {
        promise = 16;
        GooseArms g = new GooseArms();
        due("at first", g.seed(MIN), 1);
        due("any int", g.seed(-1), MIN);
        due("below 0", g.seed(5), -1);
        due("above", g.seed(MAX), 5);
        due("greatest", g.seed(0), MAX);
    }

    private static int after(int z) {
        return z * 1103515245 + 12345;
    }

    private static void draught() {
        promise = 17;
        GooseArms g = new GooseArms();
        due("no sayings", g.draught(), NONE);
        g.saying(0, 0, 0);
        due("nobody hears, and nothing is drawn", g.draught(), 0);
        due("z stays", g.seed(1), 1);
        due("it was said", g.state(0), 1);
        due("none is left", g.draught(), NONE);
        due("z stays", g.seed(1), 1);
        for (int z = -50; z < 50; z++) {
            int first = after(z * 9999991);
            int second = after(first);
            int one = (first >>> 16) % 3;
            boolean draught = (second >>> 16) % 100 < 50;
            GooseArms h = courtOf("say 0 heat 0;hearer minds 0;judge tender 30;horse tender 40 minds 0;draught 50;");
            h.seed(z * 9999991);
            due("whom it raised", h.draught(), (draught ? 1 << one : 0) | 2);
            due("z after two draws", h.seed(0), second);
            due("arm", h.of(one, 3), draught || one == 1 ? 1 : 0);
            due("tender", h.of(0, 1), draught && one == 0 ? 2 : 3);
            due("said", h.state(0), 1);
        }
        GooseArms calm = courtOf("say 0 heat 0;hearer minds 0;draught 0;");
        due("never with draught 0", calm.draught(), 0);
        due("z after two draws", calm.seed(0), after(after(1)));
    }

    private static void chills() {
        promise = 18;
        GooseArms g = courtOf("say 0 heat 0;hearer minds 0;judge tender 30;horse tender 40 minds 0;draught 50;");
        int z = 1;
        int want = 0;
        for (int n = 1; n <= 30; n++) {
            int one = ((z = after(z)) >>> 16) % 3;
            want += ((z = after(z)) >>> 16) % 100 < 50 && one != 1 ? 1 : 0;
            due("of " + n, g.chills(n), want);
        }
        due("some, but not all", want > 0 && want < 30 ? 1 : 0, 1);
        due("z doesn't change", g.seed(1), 1);
        due("nothing was said", g.state(0), 0);
        due("nobody was raised", g.state(4), 0);
        due("none", g.chills(0), BAD);
        due("31", g.chills(31), BAD);
        due("below", g.chills(-1), BAD);
        g.set(3, 0);
        due("no draughts", g.chills(30), 0);
        g.set(3, 99);
        g.say(1);
        due("none is left", g.chills(30), 0);
        due("none is left, but not so many", g.chills(31), BAD);
        due("z stays", g.seed(1), 1);
        GooseArms empty = courtOf("say 0;");
        due("nobody hears", empty.chills(30), 0);
    }

    private static void state() {
        promise = 19;
        GooseArms g = courtOf("say 0 heat 8 so;say 0 heat 0;say 0 heat 9 so;say 0 heat 0;"
            + "hearer minds 0;hearer tender 99 minds 0;judge minds 0;horse minds 0;horse minds 0;");
        due("said", g.state(0), 0);
        due("sayings", g.state(1), 4);
        due("so", g.state(2), 5);
        due("tender", g.state(3), 3 + 99 + 3 + 3 + 3);
        due("marked", g.state(4), 0);
        // hearers: 0 and 2; judge: 8 and 3 of 10: 0 and 2 as well; horses: none
        due("alike", g.state(5), 3);
        g.say(1);
        due("said", g.state(0), 1);
        due("marked", g.state(4), 7);
        due("tender", g.state(3), 111 - 3);
        due("alike", g.state(5), 3);
        g.mind(2, 5, 0);
        due("alike", g.state(5), 2);
        due("nothing else", g.state(6), BAD);
        due("nothing below", g.state(-1), BAD);
        due("nobody", new GooseArms().state(5), 0);
        due("bare ones are alike too", courtOf("say 0 heat 0;horse;horse;hearer;").state(5), 3);
    }

    private static void arm() {
        promise = 20;
        GooseArms g = courtOf("say 0 heat 8;say 0 heat 9;say 0 heat 8;say 0 heat 1;hearer minds 0;");
        due("now", g.arm(0, 0), 0);
        due("by 1", g.arm(0, 1), 1);
        due("by 2", g.arm(0, 2), 3);
        due("by 60", g.arm(0, 60), 7);
        g.say(1);
        due("now", g.arm(0, 0), 1);
        due("by 1", g.arm(0, 1), 3);
        due("nothing changes", g.of(0, 3), 1);
        due("by 61", g.arm(0, 61), BAD);
        due("by less", g.arm(0, -1), BAD);
        due("no such one", g.arm(1, 0), BAD);
        due("no such one below", g.arm(-1, 0), BAD);
    }

    private static void raised() {
        promise = 21;
        GooseArms g = courtOf("say 0 heat 1;say 0 heat 7;say 0 heat 8;hearer minds 0;advocate minds 0;horse minds 0;");
        due("behind 3", g.raised(0), 3);
        due("behind 2", g.raised(1), 2);
        due("not by then", g.raised(2), NONE);
        g.say(1);
        due("behind 2", g.raised(0), 2);
        due("behind 1", g.raised(1), 1);
        g.say(2);
        due("it is already", g.raised(0), 0);
        due("still not", g.raised(2), NONE);
        due("behind all twelve", courtOf("say 0 heat 0;say 0 heat 0;say 0 heat 0;say 0 heat 0;say 0 heat 0;say 0 heat 0;say 0 heat 0;"
            + "say 0 heat 0;say 0 heat 0;say 0 heat 0;say 0 heat 0;say 0 heat 8;hearer minds 0;").raised(0), 12);
        due("no such one", g.raised(3), BAD);
        due("no such one below", g.raised(-1), BAD);
    }

    private static void right() {
        promise = 22;
        GooseArms g = courtOf("say 0 heat 8 so;say 0 heat 8;say 0 heat 7 so;say 0 heat 7;hearer minds 0;liar minds 0;");
        due("one of each", g.right(0), 2);
        due("all raise it", g.right(1), 2);
        g.say(1);
        due("said or not", g.right(0), 2);
        g.alter(0, 2, 0);
        due("not so any more", g.right(0), 1);
        due("no such one", g.right(2), BAD);
        due("no such one below", g.right(-1), BAD);
        due("no sayings", courtOf("hearer;").right(0), 0);
        due("nothing changes", g.state(0), 1);
    }

    private static void topicFor() {
        promise = 23;
        GooseArms g = courtOf("say 7 heat 6;say 4 heat 0;hearer tender 2 minds 2;hearer tender 3 minds 36;judge tender 4 minds 32;");
        // topic 1 raises the first, 2 the second, 5 the second and the judge
        due("most", g.topicFor(0), 5);
        due("nobody, whatever the topic: the least", g.topicFor(1), 0);
        due("it stays", g.sayingOf(0, 0), 7);
        g.say(1);
        due("it was said", g.topicFor(0), NONE);
        due("no such saying", g.topicFor(2), BAD);
        due("no such saying below", g.topicFor(-1), BAD);
        // what wears in between counts: the first saying leaves no tenderness for the second
        GooseArms worn = courtOf("say 0 heat 8;say 1 heat 7;hearer tender 1 minds 4;hearer tender 9 minds 8;");
        due("worn by then", worn.topicFor(1), 3);
        due("nobody", courtOf("say 3;").topicFor(0), 0);
        due("the last topic", courtOf("say 3;hearer minds 128;").topicFor(0), 7);
    }

    private static void heatFor() {
        promise = 24;
        GooseArms g = courtOf("say 0 heat 8;say 0 heat 3 so;hearer tender 2 minds 1;horse tender 50;judge minds 0;elder tender 9;");
        due("6 and 2 are 8", g.heatFor(0, 0), 6);
        due("6 and 2, worn to 1", g.heatFor(1, 0), 7);
        due("none needed", g.heatFor(0, 1), 0);
        due("at an odd number: with none", g.heatFor(1, 1), NONE);
        due("with none of them", g.heatFor(0, 2), NONE);
        due("under oath", g.heatFor(1, 2), 7);
        due("elder: none needed", g.heatFor(1, 3), 0);
        due("it stays", g.sayingOf(1, 1), 3);
        due("the greatest heat", courtOf("say 0 heat 0;hearer minds 0;cold 3;").heatFor(0, 0), 9);
        g.say(1);
        due("it was said", g.heatFor(0, 0), NONE);
        due("it is left", g.heatFor(1, 0), 7);
        due("no such saying", g.heatFor(2, 0), BAD);
        due("no such saying below", g.heatFor(-1, 0), BAD);
        due("no such one", g.heatFor(0, 4), BAD);
        due("no such one below", g.heatFor(0, -1), BAD);
    }

    private static void kindFor() {
        promise = 25;
        // so with 7 raises advocate, liar and elder (not hearer, judge has 10 of 10); not so with 7 must not raise
        GooseArms g = courtOf("say 0 heat 7 so;say 0 heat 7;hearer minds 0;");
        due("judge", g.kindFor(0), 1);
        due("it stays", g.of(0, 0), 0);
        GooseArms elder = courtOf("say 0 heat 2 so;say 0 heat 4;horse minds 0;");
        due("elder: 10 of 10, 8 of 10", elder.kindFor(0), 3);
        GooseArms liar = courtOf("say 0 heat 5 so;say 0 heat 4;say 0 heat 7 so;hearer minds 0;cold 9;");
        // liar: 3, 11, 5 of 3: two right of three; the others: only the one that is not so, elder 16, 8, 20 of 17: two
        due("elder before liar", liar.kindFor(0), 3);
        due("of several the least", courtOf("say 0 heat 0;liar minds 0;").kindFor(0), 0);
        due("the horse", courtOf("say 0 heat 1 so;say 0 heat 1;say 0 heat 1 so;say 0 heat 1;hearer tender 29;").kindFor(0), 5);
        due("no such one", g.kindFor(1), BAD);
        due("no such one below", g.kindFor(-1), BAD);
    }

    private static void tenderFor() {
        promise = 26;
        GooseArms g = courtOf("say 0 heat 3 so;say 1 heat 4;hearer tender 77 minds 3;");
        // wear 1: 5 raises it at the first and then 4 and 4 at the second; best is 5 that is not to be 4: with 5, 4 + 4 = 8 raises
        due("raised by both or neither, the least", g.tenderFor(0), 0);
        g.alter(1, 1, 3);
        due("5 and worn to 4", g.tenderFor(0), 5);
        due("it stays", g.of(0, 1), 77);
        GooseArms far = courtOf("say 0 heat 0 so;horse tender 1;cold 9;");
        due("far up", far.tenderFor(0), 30);
        GooseArms most = courtOf("say 0 heat 0 so;say 1 heat 0 so;say 0 heat 0 so;say 0 heat 0 so;say 0 heat 0 so;say 0 heat 0 so;"
            + "say 0 heat 0 so;say 0 heat 0 so;say 0 heat 0 so;say 0 heat 0 so;hearer minds 1;cold 9;wear 9;");
        due("15 and 8 times 9 worn", most.tenderFor(0), 87);
        due("9 and 10 times 9 worn", courtOf("say 0 heat 0 so;say 0 heat 0 so;say 0 heat 0 so;say 0 heat 0 so;say 0 heat 0 so;"
            + "say 0 heat 0 so;say 0 heat 0 so;say 0 heat 0 so;say 0 heat 0 so;say 0 heat 0 so;say 0 heat 0 so;"
            + "hearer;cold 3;wear 9;").tenderFor(0), 99);
        due("no such one", g.tenderFor(1), BAD);
        due("no such one below", g.tenderFor(-1), BAD);
    }

    private static void nextFor() {
        promise = 27;
        // tender 5, wear 5: whatever of topic 0 comes first is raised by 3 and wears it out
        GooseArms g = courtOf("say 0 heat 3;say 0 heat 3;say 0 heat 3 so;say 0 heat 3 so;hearer tender 5;wear 5;");
        due("the first that is so", g.nextFor(0), 2);
        due("places stay", g.state(2), 12);
        g.say(1);
        due("nothing is to be won: itself", g.nextFor(0), 1);
        g.anew();
        g.tender(0, 5);
        g.alter(0, 2, 1);
        due("itself", g.nextFor(0), 0);
        due("nothing is ever right: the least", courtOf("say 0 heat 8;say 0 heat 8;hearer;").nextFor(0), 0);
        g.say(4);
        due("none is left", g.nextFor(0), NONE);
        due("no such one", g.nextFor(1), BAD);
        due("no such one below", g.nextFor(-1), BAD);
        // the horse hears at even numbers: 1 must go to 0, as the number goes with the place
        GooseArms horse = courtOf("say 0 heat 0;say 1 heat 8 so;horse tender 8;");
        due("to an even place", horse.nextFor(0), 1);
        due("topics stay", horse.sayingOf(0, 0), 0);
        due("heats stay", horse.sayingOf(0, 1), 0);
    }

    private static void enough() {
        promise = 28;
        GooseArms g = courtOf("say 0 heat 8 so;say 1 heat 8 so;say 2 heat 8 so;cold 9;hearer tender 9 minds 1;"
            + "hearer tender 9 minds 2;hearer tender 9 minds 4;hearer tender 9 minds 3;hearer tender 9 minds 6;wear 0;");
        due("of several the least", g.enough(), 4 + 8);
        g.tender(2, 0);
        due("two of them", g.enough(), 1 + 16);
        g.tender(3, 0);
        due("two of them", g.enough(), 1 + 16);
        g.tender(4, 0);
        due("by no set", g.enough(), NONE);
        g.tender(2, 9);
        due("three of them", g.enough(), 7);
        g.alter(1, 2, 0);
        due("two that are so", g.enough(), 5);
        g.alter(0, 2, 0);
        g.alter(2, 2, 0);
        due("nothing is so", g.enough(), 0);
        due("nothing changes", g.state(0), 0);
        due("nobody, nothing", new GooseArms().enough(), 0);
        due("nobody", courtOf("say 0 so;").enough(), NONE);
    }

    private static void fits() {
        promise = 29;
        GooseArms g = courtOf("say 0 heat 3;say 1 heat 9;say 0 heat 4;hearer tender 50 minds 1;");
        due("missing", g.fits(0, 0, 0), -11);
        g.sheet(0, 2, 0);
        due("nothing told: all", g.fits(0, 0, 0), 100);
        due("least", g.fits(0, 0, 1), 0);
        g.sheet(0, 2, 5);
        for (int i = 0; i < 5; i++) {
            g.put(0, i, -1);
        }
        due("any: all", g.fits(0, 0, 0), 100);
        g.put(0, 0, 1);
        due("raised by 3: 5 and more", g.fits(0, 0, 0), 95);
        due("least", g.fits(0, 0, 1), 5);
        g.put(0, 2, 0);
        due("and not by 4, worn by 2: 5", g.fits(0, 0, 0), 1);
        due("least", g.fits(0, 0, 1), 5);
        g.put(0, 0, 0);
        due("neither: to 4, as 4 are 3 by then", g.fits(0, 0, 0), 5);
        g.put(0, 1, 0);
        due("the second raises it always", g.fits(0, 0, 0), 0);
        due("none", g.fits(0, 0, 1), NONE);
        g.put(0, 1, 5);
        due("5 tells neither 1 nor 0", g.fits(0, 0, 0), 0);
        g.put(0, 1, 1);
        g.put(0, 3, 0);
        g.put(0, 4, 7);
        due("any when none is left", g.fits(0, 0, 0), 5);
        g.tender(0, 9);
        g.say(1);
        due("from the next one on: it is raised always, by 0", g.fits(0, 0, 0), 0);
        due("tender stays", g.of(0, 1), 8);
        due("no such sheet", g.fits(4, 0, 0), BAD);
        due("no such sheet below", g.fits(-1, 0, 0), BAD);
        due("no such one", g.fits(0, 1, 0), BAD);
        due("no such one, missing", g.fits(1, 1, 0), BAD);
        due("no such what", g.fits(0, 0, 2), BAD);
        due("no such what below", g.fits(1, 0, -1), BAD);
        g.sheet(1, 3, 1);
        g.put(1, 0, -1);
        due("longs", g.fits(1, 0, 0), 100);
        g.sheet(1, 0, 1);
        g.put(1, 0, 255);
        due("bytes: 255 is -1", g.fits(1, 0, 0), 100);
    }

    private static void odds() {
        promise = 30;
        GooseArms g = new GooseArms();
        due("3, 1: 48 of 125", g.odds(3, 1, 0), 48);
        due("3, 1: 48 of 125", g.odds(3, 1, 1), 125);
        due("0, 0", g.odds(0, 0, 0), 1);
        due("0, 0", g.odds(0, 0, 1), 1);
        g.set(3, 99);
        due("99 to the 8th", g.odds(8, 8, 0), 9227446944279201L);
        due("100 to the 8th", g.odds(8, 8, 1), 10000000000000000L);
        due("8, 0", g.odds(8, 0, 0), 1);
        due("8, 4: 70 * 99^4 of 100^8", g.odds(8, 4, 0), 7L * 96059601);
        due("8, 4", g.odds(8, 4, 1), 1000000000000000L);
        g.set(3, 50);
        due("4, 2: 6 of 16", g.odds(4, 2, 0), 3);
        due("4, 2: 6 of 16", g.odds(4, 2, 1), 8);
        g.set(3, 0);
        due("never", g.odds(2, 1, 0), 0);
        due("never is 0 by 1", g.odds(2, 1, 1), 1);
        due("always", g.odds(2, 0, 0), 1);
        due("9 days", g.odds(9, 0, 0), BAD);
        due("below 0 days", g.odds(-1, 0, 0), BAD);
        due("more than days", g.odds(3, 4, 0), BAD);
        due("below 0 draughts", g.odds(3, -1, 0), BAD);
        due("part above", g.odds(3, 1, 2), BAD);
        due("part below", g.odds(3, 1, -1), BAD);
    }

    private static void hope() {
        promise = 31;
        GooseArms g = new GooseArms();
        due("5 days", g.hope(5, 0), 1);
        due("5 days", g.hope(5, 1), 1);
        due("7 days: 7 of 5", g.hope(7, 0), 7);
        due("7 days: 7 of 5", g.hope(7, 1), 5);
        due("0 days", g.hope(0, 0), 0);
        due("0 days", g.hope(0, 1), 1);
        g.set(3, 99);
        due("99 days", g.hope(99, 0), 9801);
        due("99 days", g.hope(99, 1), 100);
        due("100 days", g.hope(100, 0), BAD);
        due("below", g.hope(-1, 0), BAD);
        due("part above", g.hope(1, 2), BAD);
        due("part below", g.hope(1, -1), BAD);
        g.set(3, 0);
        due("never", g.hope(7, 0), 0);
        due("never", g.hope(7, 1), 1);
    }

    private static GooseArms proven() {
        GooseArms g = courtOf("say 0 heat 8;say 0 heat 0;say 0 heat 9 so;hearer tender 4 minds 0;judge minds 0;");
        g.prove(0, 3);
        return g;
    }

    private static void prove() {
        promise = 32;
        GooseArms g = proven();
        due("as many as are left", g.prove(0, 10), 3);
        due("two", g.prove(0, 2), 2);
        due("rows", g.many(4), 2);
        due("nothing was said", g.state(0), 0);
        due("none", g.prove(0, 0), BAD);
        due("11", g.prove(0, 11), BAD);
        due("no such one", g.prove(2, 1), BAD);
        due("no such one below", g.prove(-1, 1), BAD);
        due("rows stay", g.many(4), 2);
        g.say(3);
        due("none is left", g.prove(0, 1), 0);
        due("no rows", g.many(4), 0);
        GooseArms twelve = courtOf("say 0;say 0;say 0;say 0;say 0;say 0;say 0;say 0;say 0;say 0;say 0;say 0;hearer;");
        due("ten at most", twelve.prove(0, 10), 10);
    }

    private static void row() {
        promise = 33;
        GooseArms g = proven();
        int[][] rows = {{1, 3, 1}, {1, 3, 0}, {5, 2, 2}};
        for (int i = 0; i < 3; i++) {
            for (int what = 0; what < 3; what++) {
                due("row " + i + ", " + what, g.row(i, what), rows[i][what]);
            }
        }
        due("no row 3", g.row(3, 0), -9);
        due("no row below", g.row(-1, 0), -9);
        due("no what 3", g.row(0, 3), -9);
        due("no what below", g.row(1, -1), -9);
        g.prove(1, 1);
        due("of the other one", g.row(0, 0), 0);
        due("no row 1 now", g.row(1, 0), -9);
    }

    private static void alterRow() {
        promise = 34;
        GooseArms g = proven();
        due("arm", g.alterRow(2, 0, -77), 5);
        due("arm now", g.row(2, 0), -77);
        due("tender", g.alterRow(2, 1, MAX), 2);
        due("raised", g.alterRow(0, 2, MIN), 1);
        due("raised now", g.alterRow(0, 2, 1), MIN);
        due("no row 3", g.alterRow(3, 0, 0), -9);
        due("no row below", g.alterRow(-1, 0, 0), -9);
        due("no what 3", g.alterRow(0, 3, 0), -9);
        due("no what below", g.alterRow(1, -1, 0), -9);
        due("nothing was altered", g.row(0, 2), 1);
        due("nor of another", g.row(1, 0), 1);
    }

    private static void judge() {
        promise = 35;
        GooseArms g = proven();
        due("all right", g.judge(0), 0);
        due("not as those of the other", g.judge(1), 1);
        int[] was = new int[3];
        for (int what = 0; what < 3; what++) {
            for (int i = 2; i >= 0; i--) {
                was[i] = g.alterRow(i, what, 50);
                due("row " + i + " is not", g.judge(0), i + 1);
            }
            for (int i = 0; i < 3; i++) {
                g.alterRow(i, what, was[i]);
            }
        }
        due("all right again", g.judge(0), 0);
        g.tender(0, 5);
        due("from how it is now", g.judge(0), 1);
        g.tender(0, 4);
        g.saying(0, 0, 0);
        due("more are left than rows", g.judge(0), 0);
        g.say(4);
        due("none is left", g.judge(0), 1);
        due("nothing changes", g.many(4), 3);
        due("no such one", g.judge(2), BAD);
        due("no such one below", g.judge(-1), BAD);
        g.prove(0, 1);
        due("there are none", g.judge(0), 0);
        GooseArms shorter = courtOf("say 0 heat 0;say 0 heat 0;say 0 heat 0;hearer minds 0;");
        shorter.prove(0, 3);
        shorter.say(1);
        due("a row for one that isn't left", shorter.judge(0), 3);
    }

    private static void minds() {
        promise = 36;
        GooseArms g = courtOf("hearer;hearer;hearer;");
        due("missing", g.minds(0, 0, 0, 1), -11);
        due("missing, but nobody either", g.minds(0, 0, 3, 1), BAD);
        g.sheet(0, 0, 5);
        int[] bytes = {-128, 127, 100, 99, 7};
        for (int i = 0; i < 5; i++) {
            g.put(0, i, bytes[i]);
        }
        due("three", g.minds(0, 0, 0, 3), 3);
        due("held to 0", g.of(0, 1), 0);
        due("held to 99", g.of(1, 1), 99);
        due("held to 99", g.of(2, 1), 99);
        due("two from 3 on", g.minds(0, 3, 1, 2), 2);
        due("the first stays", g.of(0, 1), 0);
        due("second", g.of(1, 1), 99);
        due("third", g.of(2, 1), 7);
        due("none", g.minds(0, 5, 2, 0), 0);
        due("none, but outside", g.minds(0, 6, 2, 0), -12);
        due("none, but below", g.minds(0, -1, 2, 0), -12);
        due("not so many", g.minds(0, 4, 0, 2), -12);
        due("far outside", g.minds(0, MAX, 0, 3), -12);
        due("far below", g.minds(0, MIN, 0, 3), -12);
        due("beyond the last one", g.minds(0, 0, 2, 2), BAD);
        due("no such one", g.minds(0, 0, 3, 0), BAD);
        due("no such one below", g.minds(0, 0, -1, 0), BAD);
        due("no such n", g.minds(0, 0, 0, 9), BAD);
        due("no such n below", g.minds(0, 0, 0, -1), BAD);
        due("no such n far below", g.minds(0, 0, 0, MIN), BAD);
        due("no such sheet", g.minds(4, 0, 0, 0), BAD);
        due("no such sheet below", g.minds(-1, 0, 0, 0), BAD);
        for (int sort = 1; sort <= 3; sort++) {
            g.sheet(1, sort, 3);
            due("another sort", g.minds(1, 0, 0, 1), -13);
            due("another sort and outside", g.minds(1, 9, 0, 1), -13);
        }
        due("nothing came of it", g.of(0, 1), 0);
    }

    private static void sheet() {
        promise = 37;
        GooseArms g = new GooseArms();
        due("40", g.sheet(3, 3, 40), 1);
        due("the last item", g.put(3, 39, 5), 1);
        due("41", g.sheet(3, 3, 41), BAD);
        due("size below 0", g.sheet(3, 3, -1), -14);
        due("least size", g.sheet(3, 3, MIN), -14);
        due("sort above", g.sheet(3, 4, 1), BAD);
        due("sort below", g.sheet(3, -2, 1), BAD);
        due("sort above, size below 0", g.sheet(3, 4, -1), BAD);
        due("no such sheet", g.sheet(4, 0, -1), BAD);
        due("no such sheet below", g.sheet(-1, 0, 1), BAD);
        due("it stays", g.item(3, 3, 39), 5);
        due("anew", g.sheet(3, 3, 40), 1);
        due("all 0", g.item(3, 3, 39), 0);
        due("empty", g.sheet(3, 0, 0), 1);
        due("nothing in it", g.item(3, 0, 0), -12);
        due("missing, n counts nothing", g.sheet(3, -1, 41), 1);
        due("missing", g.item(3, 0, 0), -11);
        due("missing, n counts nothing", g.sheet(3, -1, MIN), 1);
        due("the others stay missing", g.item(0, 0, 0), -11);
    }

    private static void put() {
        promise = 38;
        GooseArms g = new GooseArms();
        int[] narrowed = {-56, 200, 200, 200};
        for (int sort = 0; sort < 4; sort++) {
            due("missing", g.put(sort, 0, 1), -11);
            g.sheet(sort, sort, 3);
            due("put", g.put(sort, 1, 200), 1);
            due("narrowed", g.item(sort, sort, 1), narrowed[sort]);
            due("the one before", g.item(sort, sort, 0), 0);
            due("the one behind", g.item(sort, sort, 2), 0);
            due("outside", g.put(sort, 3, 1), -12);
            due("below", g.put(sort, -1, 1), -12);
        }
        g.put(1, 0, 0x12348765);
        due("short", g.item(1, 1, 0), (short) 0x8765);
        g.put(0, 0, 0x12345678);
        due("byte", g.item(0, 0, 0), 0x78);
        g.put(2, 0, MIN);
        due("int", g.item(2, 2, 0), MIN);
        g.put(3, 0, -7);
        due("long", g.item(3, 3, 0), -7);
        due("no such sheet", g.put(4, 0, 1), BAD);
        due("no such sheet below", g.put(-1, 0, 1), BAD);
    }

    private static void item() {
        promise = 39;
        GooseArms g = new GooseArms();
        due("missing", g.item(0, 0, 0), -11);
        due("no such sort, missing", g.item(0, 4, 0), BAD);
        g.sheet(0, 2, 2);
        g.put(0, 1, -13);
        due("as low as a refusal", g.item(0, 2, 1), -13);
        for (int sort = 0; sort < 4; sort++) {
            due("taken for " + sort, g.item(0, sort, 0), sort == 2 ? 0 : -13);
        }
        due("another sort, outside", g.item(0, 1, 9), -13);
        due("outside", g.item(0, 2, 2), -12);
        due("below", g.item(0, 2, -1), -12);
        due("sort above", g.item(0, 4, 0), BAD);
        due("sort below", g.item(0, -1, 0), BAD);
        due("no such sheet", g.item(4, 2, 0), BAD);
        due("no such sheet below", g.item(-1, 2, 0), BAD);
    }

    private static void shelf() {
        promise = 40;
        GooseArms g = courtOf("hearer;judge;");
        due("one", g.shelf(3, 0, 1), 1);
        due("it holds", g.taken(3, 0), 1);
        due("no such one", g.shelf(3, 0, 2), BAD);
        due("no such one below", g.shelf(3, 0, -1), BAD);
        due("no such row", g.shelf(3, 1, 4), BAD);
        due("no such row below", g.shelf(3, 1, -1), BAD);
        due("no such what", g.shelf(3, 3, 0), BAD);
        due("no such what below", g.shelf(3, -1, 0), BAD);
        due("no such shelf", g.shelf(4, 0, 0), BAD);
        due("no such shelf below", g.shelf(-1, 2, 0), BAD);
        due("it still holds", g.taken(3, 0), 1);
        due("a missing row is nothing", g.shelf(3, 1, 0), 1);
        due("nothing", g.taken(3, 0), -11);
        g.sheet(0, 1, 7);
        due("a row", g.shelf(3, 1, 0), 1);
        due("it holds", g.taken(3, 11), 7);
        g.sheet(0, 2, 4);
        due("the row that it was", g.taken(3, 11), 7);
        g.sheet(0, -1, 0);
        due("the row that it was", g.taken(3, 11), 7);
        due("nothing, whatever n", g.shelf(3, 2, 99), 1);
        due("nothing", g.taken(3, 11), -11);
        g.shelf(0, 0, 1);
        told(g, "horse;");
        due("no such one at the time", g.taken(0, 0), -11);
        g.hearer(4, 0, 0);
        due("there is such a one again", g.taken(0, 4), 1);
    }

    private static void taken() {
        promise = 41;
        GooseArms g = courtOf("hearer;judge;advocate;elder;liar;horse;");
        int[] under = {1, 3, 5, 11, 21, 33};
        for (int kind = 0; kind < 6; kind++) {
            g.shelf(0, 0, kind);
            for (int as = 0; as < 6; as++) {
                due("kind " + kind + " for " + as, g.taken(0, as), (under[kind] >> as & 1) == 1 ? kind : -13);
            }
            due("for a row", g.taken(0, 10), -13);
        }
        for (int sort = 0; sort < 4; sort++) {
            g.sheet(1, sort, sort + 2);
            g.shelf(0, 1, 1);
            for (int as = 10; as < 14; as++) {
                due("row of " + sort + " for " + as, g.taken(0, as), as - 10 == sort ? sort + 2 : -13);
            }
            due("for a hearer", g.taken(0, 0), -13);
        }
        due("nothing", g.taken(1, 0), -11);
        due("nothing for a row", g.taken(1, 12), -11);
        int[] none = {-1, 6, 9, 14, MIN, MAX};
        for (int as : none) {
            due("no such as", g.taken(1, as), BAD);
        }
        due("no such shelf", g.taken(4, 0), BAD);
        due("no such shelf below", g.taken(-1, 0), BAD);
    }

    private static void acts(GooseArms g, int kind, int n, int a, int x, int[] answers) {
        g.mind(n, kind, 0);
        g.tender(n, a);
        g.shelf(0, 0, n);
        for (int act = 0; act < 4; act++) {
            due("kind " + kind + ", act " + act, g.act(0, act, x), answers[act]);
        }
    }

    private static void act() {
        promise = 42;
        GooseArms g = courtOf("hearer;hearer;hearer;hearer;hearer;");
        // n 3, a 5, x 10: shakes 53, reads 48, parts 10 / 2, swears 48 ^ 150 = 166
        acts(g, 0, 3, 5, 10, new int[] {53, 48, 5, 166});
        // reads 96; 96 ^ 150 = 246
        acts(g, 1, 3, 5, 10, new int[] {53, 96, 5, 246});
        // shakes 49, reads 44, swears 44 ^ 150 = 186 and parts(3) = 1
        acts(g, 2, 3, 5, 10, new int[] {49, 44, 5, 187});
        // shakes 58, reads (58 - 5) * 2 = 106, parts 30 / 2 + 2 = 17, swears 106 ^ 150 = 252
        acts(g, 3, 3, 5, 10, new int[] {58, 106, 17, 252});
        // shakes -49; reads (-49 - 5) ^ -(25 + 3 - 4) = -54 ^ -24 = 34; swears (34 ^ 150) + 1 = 181
        acts(g, 4, 3, 5, 10, new int[] {-49, 34, 5, 181});
        // shakes 53, reads 48, parts 5 - (15 + 3) = -13, swears 332
        acts(g, 5, 3, 5, 10, new int[] {53, 48, -13, 332});
        // by -1 the least int stays; ints wrap: 5 * MIN is MIN
        acts(g, 0, 4, 3, MIN, new int[] {MIN + 4, MIN + 1, MIN, MIN + 1 ^ 150});
        due("cut towards 0", g.act(0, 2, 0), 0);
        acts(g, 0, 4, 1, -7, new int[] {-31, -32, 2, -32 ^ 150});
        int[] none = {-1, 4, MIN, MAX};
        for (int i : none) {
            g.act(0, 0, 1);
            due("no such shelf", g.act(i, 0, 1), 0);
            due("no trace then", g.many(6), 0);
            g.act(0, 0, 1);
            due("no such act", g.act(0, i, 1), 0);
            due("no trace then", g.trace(0), NONE);
        }
        g.act(0, 0, 1);
        due("nothing", g.act(1, 0, 1), 0);
        due("no trace then", g.many(6), 0);
        g.sheet(0, 0, 3);
        g.shelf(1, 1, 0);
        g.act(0, 0, 1);
        due("a row", g.act(1, 0, 1), 0);
        due("no trace then", g.many(6), 0);
        g.act(0, 0, 1);
        told(g, "hearer;");
        due("nobody at the time", g.act(0, 0, 1), 0);
        due("no trace then", g.many(6), 0);
    }

    private static void actParts() {
        promise = 42;
        GooseArms g = courtOf("hearer;hearer;");
        // a is n: parted by 0
        acts(g, 0, 1, 1, 9, new int[] {46, 45, -15, 45 ^ 150});
        acts(g, 1, 1, 1, 9, new int[] {46, 90, -15, 90 ^ 150});
        acts(g, 2, 1, 1, 9, new int[] {42, 41, -15, -15});
        due("trace up to the parting", g.many(6), 6);
        due("its last", g.trace(5), 12);
        acts(g, 3, 1, 1, 9, new int[] {47, 92, -15, 92 ^ 150});
        acts(g, 4, 1, 1, 9, new int[] {-42, -43 ^ -2, -15, -15});
        acts(g, 5, 1, 1, 9, new int[] {46, 45, -15, (45 ^ 150) * 2});
        due("parts", g.act(0, 2, 9), -15);
        due("no shakes behind the parting", g.many(6), 2);
        due("61", g.trace(0), 61);
        due("12", g.trace(1), 12);
        due("the next act is as ever", g.act(0, 0, 9), 46);
    }

    private static void traceOf(GooseArms g, int kind, int act, int... bodies) {
        g.mind(0, kind, 0);
        g.act(0, act, 3);
        due("bodies of kind " + kind + ", act " + act, g.many(6), bodies.length);
        for (int i = 0; i < bodies.length; i++) {
            due("kind " + kind + ", act " + act + ", body " + i, g.trace(i), bodies[i]);
        }
        due("no more", g.trace(bodies.length), NONE);
        due("none before", g.trace(-1), NONE);
    }

    private static void trace() {
        promise = 43;
        GooseArms g = courtOf("hearer tender 9;");
        due("none yet", g.trace(0), NONE);
        g.shelf(0, 0, 0);
        traceOf(g, 0, 0, 10);
        traceOf(g, 0, 1, 11, 10);
        traceOf(g, 0, 2, 12);
        traceOf(g, 0, 3, 13, 11, 10);
        traceOf(g, 1, 0, 10);
        traceOf(g, 1, 1, 20, 11, 10);
        traceOf(g, 1, 2, 12);
        traceOf(g, 1, 3, 13, 20, 11, 10);
        traceOf(g, 2, 0, 30, 10);
        traceOf(g, 2, 1, 11, 30, 10);
        traceOf(g, 2, 2, 12);
        traceOf(g, 2, 3, 31, 13, 11, 30, 10, 12);
        traceOf(g, 3, 0, 51, 10);
        traceOf(g, 3, 1, 20, 11, 51, 10);
        traceOf(g, 3, 2, 50, 12);
        traceOf(g, 3, 3, 13, 20, 11, 51, 10);
        traceOf(g, 4, 0, 40, 30, 10);
        traceOf(g, 4, 1, 41, 11, 40, 30, 10, 40, 30, 10);
        traceOf(g, 4, 2, 12);
        traceOf(g, 4, 3, 31, 13, 41, 11, 40, 30, 10, 40, 30, 10, 12);
        traceOf(g, 5, 0, 10);
        traceOf(g, 5, 1, 11, 10);
        traceOf(g, 5, 2, 61, 12, 10);
        traceOf(g, 5, 3, 60, 13, 11, 10);
        due("far off", g.trace(MAX), NONE);
        due("far below", g.trace(MIN), NONE);
    }

    private static void many() {
        promise = 44;
        GooseArms g = courtOf("say 0 heat 8 so;say 0 heat 1 so;say 0 heat 1;say 0 heat 1 so;hearer minds 0;horse minds 0;liar;");
        due("hearers", g.many(0), 3);
        due("left", g.many(1), 4);
        due("so", g.many(2), 3);
        due("marked", g.many(3), 0);
        due("rows", g.many(4), 0);
        due("bytes", g.many(5), 0);
        due("bodies", g.many(6), 0);
        g.say(1);
        g.prove(0, 2);
        g.feed(0, 5);
        g.shelf(0, 0, 0);
        g.act(0, 1, 1);
        int[] now = {3, 3, 3, 2, 2, 5, 2};
        for (int what = 0; what < 7; what++) {
            due("now " + what, g.many(what), now[what]);
        }
        due("nothing else", g.many(7), BAD);
        due("nothing below", g.many(-1), BAD);
    }

    private static GooseArms busy() {
        GooseArms g = courtOf("say 0 heat 9 so;say 1 heat 2;hearer tender 7;judge;cold 1;oath 2;wear 3;draught 4;");
        g.say(1);
        g.seed(99);
        g.keep();
        return g;
    }

    private static void keep() {
        promise = 45;
        GooseArms g = busy();
        due("keep", g.keep(), 1);
        g.hearer(5, 0, 0);
        due("keep again: the latest counts", g.keep(), 1);
        g.court();
        due("three of them", g.again(), 3);
        GooseArms empty = new GooseArms();
        due("keep of nothing at all", empty.keep(), 1);
        empty.hearer(0, 0, 0);
        due("nobody", empty.again(), 0);
        due("nobody", empty.many(0), 0);
    }

    private static void again() {
        promise = 46;
        due("nothing is kept", new GooseArms().again(), NONE);
        GooseArms g = busy();
        g.prove(0, 1);
        g.sheet(2, 0, 6);
        g.shelf(1, 0, 1);
        g.act(1, 1, 5);
        g.feed(0x20, 1);
        for (int round = 0; round < 2; round++) {
            g.say(1);
            g.seed(5);
            g.alter(0, 0, 5);
            g.alter(0, 1, 5);
            g.alter(0, 2, 0);
            g.mind(0, 4, 4);
            g.tender(0, 50);
            g.saying(3, 3, 1);
            g.hearer(0, 0, 0);
            g.anew();
            for (int law = 0; law < 4; law++) {
                g.set(law, 9);
            }
            due("how many", g.again(), 2);
            due("said", g.state(0), 1);
            due("sayings", g.state(1), 2);
            due("z", g.seed(99), 99);
            int[] of = {0, 4, 255, 1};
            int[] sayingOf = {0, 9, 1, 3};
            int[] laws = {1, 2, 3, 4};
            for (int i = 0; i < 4; i++) {
                due("of " + i, g.of(0, i), of[i]);
                due("saying " + i, g.sayingOf(0, i), sayingOf[i]);
                due("law " + i, g.lawOf(i), laws[i]);
            }
            due("rows stay", g.many(4), 1);
            due("tape stays", g.many(5), 1);
            due("trace stays", g.many(6), 3);
            due("sheets stay", g.item(2, 0, 5), 0);
            due("shelves stay", g.taken(1, 1), 1);
        }
    }
}
