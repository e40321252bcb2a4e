/** The edges of promises 1 and 4 to 19: the case and its hearers, what is said, draws. */
public final class EdgesCaseTest {
    private static final int BAD = Edge.BAD, FULL = Edge.FULL, NONE = Edge.NONE;
    private static final int MIN = Edge.MIN, MAX = Edge.MAX;
    private static final String OF_SEVERAL = "of several the first named";
    private static final int[] MOST_OF_LAW = {9, 9, 9, 99};

    public static void main(String[] args) {
        newObject();
        lastCall();
        set();
        lawOf();
        saying();
        sayingOf();
        alter();
        hearer();
        of();
        shivers();
        shiversMind();
        shiversHorse();
        needs();
        wears();
        does();
        mind();
        tender();
        say();
        sayRaises();
        sayHolds();
        sayBegins();
        anew();
        seed();
        draught();
        draws();
        drawsWrap();
        drawsBelow();
        drawsInAnyCase();
        chills();
        chillsTries();
        state();
        alike();
        asItIsAlready();
        Edge.everyPromise(1, 1);
        Edge.everyPromise(4, 19);
        Edge.ends();
    }

    private static void sentence(int promise, String text) {
        Edge.sentence(promise, text);
    }

    private static void due(String what, long got, long want) {
        Edge.due(what, got, want);
    }

    private static void busy(String what, Edge.Call call, long want) {
        Edge.leaves(what, Edge::busy, call, want);
    }

    private static void newObject() {
        GooseArms g = new GooseArms();
        sentence(1, "No HEARERS, no SAYINGS; nothing is kept.");
        due("many(0)", g.many(0), 0);
        due("of(0, 0)", g.of(0, 0), BAD);
        due("state(1)", g.state(1), 0);
        due("sayingOf(0, 0)", g.sayingOf(0, 0), BAD);
        due("again()", g.again(), NONE);
        sentence(1, "how many SAYINGS of the case were said (0 at first).");
        due("state(0)", g.state(0), 0);
        sentence(1, "0 COLD (0 to 9; 2 at first), 1 OATH (0 to 9; 3), 2 WEAR (0 to 9; 1), 3 DRAUGHT (0 to 99 of a hundred; 20).");
        due("lawOf(0)", g.lawOf(0), 2);
        due("lawOf(1)", g.lawOf(1), 3);
        due("lawOf(2)", g.lawOf(2), 1);
        due("lawOf(3)", g.lawOf(3), 20);
        sentence(1, "z (an int; 1 at first)");
        due("seed(5)", g.seed(5), 1);
        sentence(1, "40 at most, or missing (at first).");
        for (int sheet = 0; sheet < 4; sheet++) {
            due("item(" + sheet + ", 0, 0)", g.item(sheet, 0, 0), -11);
        }
        sentence(1, "a SHEET's row, or nothing (at first).");
        for (int shelf = 0; shelf < 4; shelf++) {
            due("taken(" + shelf + ", 0)", g.taken(shelf, 0), -11);
        }
    }

    private static void lastCall() {
        sentence(1, "An object is used for at most 512 calls after it has been made");
        GooseArms g = new GooseArms();
        for (int i = 0; i < 12; i++) {
            g.saying(i % 8, i % 10, i % 2);
        }
        for (int i = 0; i < 8; i++) {
            g.hearer(i % 6, 11 * i, 255);
        }
        // 20 calls until here, 490 dear ones more, and the last two
        for (int i = 0; i < 98; i++) {
            g.enough();
            g.tenderFor(i % 8);
            g.topicFor(i % 12);
            g.nextFor(i % 8);
            g.chills(30);
        }
        due("the 511th call", g.say(60), 12);
        due("the 512th call", g.state(0), 12);
    }

    private static void set() {
        sentence(4, "0 COLD (0 to 9; 2 at first), 1 OATH (0 to 9; 3), 2 WEAR (0 to 9; 1), 3 DRAUGHT (0 to 99 of a hundred; 20).");
        GooseArms g = new GooseArms();
        int[] first = {2, 3, 1, 20};
        for (int i = 0; i < 4; i++) {
            int law = i;
            int most = MOST_OF_LAW[law];
            due("the greatest of law " + law, g.set(law, most), first[law]);
            due("the greatest stands", g.lawOf(law), most);
            due("the least of law " + law, g.set(law, 0), most);
            due("the least stands", g.lawOf(law), 0);
            busy("set(" + law + ", -1)", b -> b.set(law, -1), BAD);
            busy("set(" + law + ", most and 1)", b -> b.set(law, most + 1), BAD);
            busy("set(" + law + ", MIN)", b -> b.set(law, MIN), BAD);
            busy("set(" + law + ", MAX)", b -> b.set(law, MAX), BAD);
        }
        sentence(4, "A LAW becomes v: what it was. BAD.");
        for (int law : new int[] {-1, 4, MIN, MAX}) {
            busy("set(" + law + ", 0)", b -> b.set(law, 0), BAD);
        }
        due("set(2, 7)", g.set(2, 7), 0);
        due("the law before stays", g.lawOf(1), 0);
        due("the law behind stays", g.lawOf(3), 0);
    }

    private static void lawOf() {
        sentence(5, "A LAW. BAD.");
        for (int law : new int[] {-1, 4, MIN, MAX}) {
            busy("lawOf(" + law + ")", b -> b.lawOf(law), BAD);
        }
        busy("the first law", b -> b.lawOf(0), 1);
        busy("the last law", b -> b.lawOf(3), 30);
    }

    private static void saying() {
        sentence(6, "each of a TOPIC (0 to 7), with HEAT (0 to 9), SO or not.");
        GooseArms g = new GooseArms();
        due("the least of all", g.saying(0, 0, 0), 0);
        due("the greatest of all", g.saying(7, 9, 1), 1);
        due("TOPIC 0", g.sayingOf(0, 0), 0);
        due("HEAT 0", g.sayingOf(0, 1), 0);
        due("TOPIC 7", g.sayingOf(1, 0), 7);
        due("HEAT 9", g.sayingOf(1, 1), 9);
        busy("TOPIC -1", b -> b.saying(-1, 0, 0), BAD);
        busy("TOPIC 8", b -> b.saying(8, 0, 0), BAD);
        busy("HEAT -1", b -> b.saying(0, -1, 0), BAD);
        busy("HEAT 10", b -> b.saying(0, 10, 0), BAD);
        for (int far : new int[] {MIN, MAX}) {
            busy("TOPIC far off", b -> b.saying(far, 0, 0), BAD);
            busy("HEAT far off", b -> b.saying(0, far, 0), BAD);
            busy("so far off", b -> b.saying(0, 0, far), BAD);
        }
        sentence(6, "(so 1: it is SO, 0: it is not)");
        due("so 0", g.sayingOf(0, 2), 0);
        due("so 1", g.sayingOf(1, 2), 1);
        busy("so -1", b -> b.saying(0, 0, -1), BAD);
        busy("so 2", b -> b.saying(0, 0, 2), BAD);
        sentence(6, "SAYINGS, 12 at most, numbered as they come");
        for (int i = 2; i < 12; i++) {
            due("one more", g.saying(0, 0, 0), i);
        }
        Edge.leaves("the thirteenth", Edge::twelveSayings, b -> b.saying(0, 0, 0), FULL);
        sentence(6, OF_SEVERAL);
        Edge.leaves("a wrong thirteenth", Edge::twelveSayings, b -> b.saying(0, 0, 2), BAD);
        sentence(6, "SAYINGS, 12 at most");
        g.say(60);
        due("a thirteenth when all were said", g.saying(0, 0, 0), FULL);
        g.court();
        due("the first of another case", g.saying(0, 0, 0), 0);
    }

    private static void sayingOf() {
        sentence(7, "what = 0 TOPIC, 1 HEAT, 2 1 if it is SO, else 0, 3 whom it raised, as a set. BAD.");
        busy("TOPIC of the last", b -> b.sayingOf(3, 0), 3);
        busy("HEAT of the last", b -> b.sayingOf(3, 1), 8);
        busy("not SO", b -> b.sayingOf(3, 2), 0);
        busy("SO", b -> b.sayingOf(2, 2), 1);
        busy("raised nobody yet", b -> b.sayingOf(1, 3), 0);
        for (int what : new int[] {-1, 4, MIN, MAX}) {
            busy("what " + what, b -> b.sayingOf(0, what), BAD);
        }
        for (int none : new int[] {-1, 4, 12, MIN, MAX}) {
            busy("no SAYING " + none, b -> b.sayingOf(none, 0), BAD);
            busy("no SAYING " + none, b -> b.sayingOf(none, 3), BAD);
        }
        sentence(7, "Sets are told by bits.");
        GooseArms g = Edge.courtOf("say 0 heat 9;" + "hearer;".repeat(8));
        g.say(1);
        due("raised all eight", g.sayingOf(0, 3), 255);
        GooseArms ends = Edge.courtOf("say 0 heat 9;hearer;" + "horse minds 0;".repeat(6) + "hearer;");
        ends.say(1);
        due("raised the first and the last", ends.sayingOf(0, 3), 129);
    }

    private static void alter() {
        sentence(8, "TOPIC (what 0), HEAT (1), whether it is SO (2) of a SAYING becomes v: what it was. BAD.");
        GooseArms g = Edge.courtOf("say 3 heat 4;say 5 heat 6 so;say 2 heat 1;");
        int[] most = {7, 9, 1};
        int[] was = {5, 6, 1};
        for (int i = 0; i < 3; i++) {
            int what = i;
            int above = most[what] + 1;
            due("the greatest of " + what, g.alter(1, what, most[what]), was[what]);
            due("the least of " + what, g.alter(1, what, 0), most[what]);
            due("the least stands", g.sayingOf(1, what), 0);
            busy("alter(0, " + what + ", -1)", b -> b.alter(0, what, -1), BAD);
            busy("alter(0, " + what + ", most and 1)", b -> b.alter(0, what, above), BAD);
            busy("alter(0, " + what + ", MIN)", b -> b.alter(0, what, MIN), BAD);
            busy("alter(0, " + what + ", MAX)", b -> b.alter(0, what, MAX), BAD);
            for (int none : new int[] {-1, 4, 12, MIN, MAX}) {
                busy("alter(" + none + ", " + what + ", 0)", b -> b.alter(none, what, 0), BAD);
            }
        }
        for (int what : new int[] {-1, 3, MIN, MAX}) {
            busy("alter(0, " + what + ", 0)", b -> b.alter(0, what, 0), BAD);
        }
        due("the SAYING before stays", g.sayingOf(0, 1), 4);
        due("the SAYING behind stays", g.sayingOf(2, 1), 1);
        due("the first", g.alter(0, 0, 7), 3);
        due("the last", g.alter(2, 0, 6), 2);
        g.say(3);
        due("one that was said, too", g.alter(0, 1, 9), 4);
    }

    private static void hearer() {
        sentence(9, "each of a KIND: 0 hearer; 1 judge, 2 advocate, 5 horse (under hearer); 3 elder (under judge); 4 liar (under advocate); "
            + "TENDER (0 to 99), with a MIND (a set of TOPICS)");
        GooseArms g = Edge.courtOf("say 0 heat 9;");
        due("the least of all", g.hearer(0, 0, 0), 0);
        due("the greatest of all", g.hearer(5, 99, 255), 1);
        int[] least = {0, 0, 0};
        int[] greatest = {5, 99, 255};
        for (int what = 0; what < 3; what++) {
            due("the least " + what, g.of(0, what), least[what]);
            due("the greatest " + what, g.of(1, what), greatest[what]);
        }
        busy("KIND -1", b -> b.hearer(-1, 0, 0), BAD);
        busy("KIND 6", b -> b.hearer(6, 0, 0), BAD);
        busy("TENDER -1", b -> b.hearer(0, -1, 0), BAD);
        busy("TENDER 100", b -> b.hearer(0, 100, 0), BAD);
        busy("MIND -1", b -> b.hearer(0, 0, -1), BAD);
        busy("MIND 256", b -> b.hearer(0, 0, 256), BAD);
        for (int far : new int[] {MIN, MAX}) {
            busy("KIND far off", b -> b.hearer(far, 0, 0), BAD);
            busy("TENDER far off", b -> b.hearer(0, far, 0), BAD);
            busy("MIND far off", b -> b.hearer(0, 0, far), BAD);
        }
        sentence(9, "One more, with an ARM that nothing raised: its number.");
        g.say(1);
        due("an ARM that was raised", g.of(1, 3), 1);
        due("one more behind that", g.hearer(0, 0, 255), 2);
        due("its ARM", g.of(2, 3), 0);
        g.court();
        g.hearer(0, 0, 0);
        due("where another one's ARM was raised", g.hearer(0, 0, 0), 1);
        due("its ARM", g.of(1, 3), 0);
        sentence(9, "HEARERS, 8 at most, numbered as they come");
        for (int i = 2; i < 8; i++) {
            due("one more", g.hearer(1, 1, 1), i);
        }
        Edge.leaves("the ninth", Edge::eightHearers, b -> b.hearer(0, 0, 0), FULL);
        sentence(9, OF_SEVERAL);
        Edge.leaves("a wrong ninth", Edge::eightHearers, b -> b.hearer(0, 0, 256), BAD);
    }

    private static void of() {
        sentence(10, "what = 0 KIND, 1 TENDER, 2 MIND, 3 ARM (as sets). BAD.");
        busy("KIND of the last", b -> b.of(2, 0), 2);
        // an advocate of 15, and the 1 that it wears less than 0
        busy("TENDER of the last", b -> b.of(2, 1), 16);
        busy("MIND of the last", b -> b.of(2, 2), 253);
        busy("ARM of the last", b -> b.of(2, 3), 1);
        for (int what : new int[] {-1, 4, MIN, MAX}) {
            busy("what " + what, b -> b.of(0, what), BAD);
        }
        for (int none : new int[] {-1, 3, 8, MIN, MAX}) {
            for (int what = 0; what < 4; what++) {
                int w = what;
                busy("nobody " + none, b -> b.of(none, w), BAD);
            }
        }
        sentence(10, "Sets are told by bits.");
        GooseArms g = Edge.courtOf("say 0 heat 9;".repeat(12) + "hearer minds 0;");
        g.say(60);
        due("all twelve on one ARM", g.of(0, 3), 4095);
        sentence(10, "HEARERS, 8 at most, numbered as they come");
        GooseArms eight = Edge.eightHearers();
        due("the eighth", eight.of(7, 1), 35);
        due("no ninth", eight.of(8, 1), BAD);
    }

    private static void shiver(GooseArms g, int kind, int want) {
        g.mind(0, kind, g.of(0, 2));
        due("a " + kind + " shivers", g.does(0, 0) - 1000, want);
    }

    private static void shivers() {
        GooseArms g = Edge.courtOf("say 0 heat 0;hearer tender 0;");
        sentence(11, "SHIVERS (at a SAYING): hearer: its HEAT; and TENDER, if its TOPIC is in MIND.");
        shiver(g, 0, 0);
        sentence(11, "judge: as hearer; and OATH, if it is SO.");
        shiver(g, 1, 0);
        g.alter(0, 2, 1);
        shiver(g, 1, 3);
        g.set(1, 0);
        shiver(g, 1, 0);
        g.set(1, 9);
        shiver(g, 1, 9);
        sentence(11, "elder: as judge, twice that.");
        shiver(g, 3, 18);
        g.alter(0, 2, 0);
        shiver(g, 3, 0);
        sentence(11, "advocate: as hearer, less 2.");
        shiver(g, 2, -2);
        sentence(11, "liar: as advocate; and 9, if it is not SO.");
        shiver(g, 4, 7);
        g.alter(0, 2, 1);
        shiver(g, 4, -2);
        sentence(11, "each of a TOPIC (0 to 7), with HEAT (0 to 9), SO or not.");
        g.alter(0, 1, 9);
        g.tender(0, 99);
        shiver(g, 0, 108);
        shiver(g, 1, 117);
        shiver(g, 2, 106);
        shiver(g, 3, 234);
        shiver(g, 4, 106);
        shiver(g, 5, 108);
        g.alter(0, 2, 0);
        shiver(g, 4, 115);
    }

    private static void shiversMind() {
        sentence(11, "and TENDER, if its TOPIC is in MIND.");
        GooseArms g = Edge.courtOf("say 0 heat 1;hearer tender 20 minds 1;");
        for (int topic = 0; topic < 8; topic++) {
            g.alter(0, 0, topic);
            g.mind(0, 0, 1 << topic);
            due("TOPIC " + topic + " alone in MIND", g.does(0, 0), 1021);
            g.mind(0, 0, 255 - (1 << topic));
            due("all but TOPIC " + topic, g.does(0, 0), 1001);
        }
    }

    private static void shiversHorse() {
        sentence(11, "horse: as hearer, at SAYINGS of even numbers; else 0.");
        GooseArms g = Edge.courtOf("say 0 heat 4;".repeat(12) + "horse tender 5;");
        for (int i = 0; i < 12; i++) {
            due("the horse at " + i, g.does(0, 0), i % 2 == 0 ? 1009 : 1000);
            g.say(1);
        }
    }

    private static void need(GooseArms g, int kind, int want) {
        g.mind(0, kind, 0);
        due("a " + kind + " needs", g.does(0, 1) - 1000, want);
    }

    private static void needs() {
        GooseArms g = Edge.courtOf("hearer tender 0;cold 0;");
        for (int cold : new int[] {0, 9}) {
            g.set(0, cold);
            sentence(11, "NEEDS: hearer: 6, and COLD.");
            need(g, 0, 6 + cold);
            sentence(11, "judge: as hearer, and 2.");
            need(g, 1, 8 + cold);
            sentence(11, "advocate: as hearer, less 3.");
            need(g, 2, 3 + cold);
            sentence(11, "liar: as advocate, less COLD.");
            need(g, 4, 3);
            sentence(11, "horse: as hearer, twice that.");
            need(g, 5, 12 + 2 * cold);
            sentence(11, "elder: as judge, and a tenth of TENDER (cut).");
            int[] tenders = {0, 9, 10, 19, 20, 89, 90, 99};
            int[] tenths = {0, 0, 1, 1, 2, 8, 9, 9};
            for (int i = 0; i < tenders.length; i++) {
                g.tender(0, tenders[i]);
                need(g, 3, 8 + cold + tenths[i]);
            }
        }
    }

    private static void wear(GooseArms g, int kind, int want) {
        g.mind(0, kind, 0);
        due("a " + kind + " wears", g.does(0, 2) - 1000, want);
    }

    private static void wears() {
        GooseArms g = Edge.courtOf("hearer;");
        for (int law : new int[] {0, 1, 2, 3, 9}) {
            g.set(2, law);
            sentence(11, "WEARS: hearer: WEAR. judge: as hearer.");
            wear(g, 0, law);
            wear(g, 1, law);
            sentence(11, "elder: as judge, twice that.");
            wear(g, 3, 2 * law);
            sentence(11, "advocate: as hearer, less 2 (so it may be below 0).");
            wear(g, 2, law - 2);
            sentence(11, "liar: as advocate, less 1.");
            wear(g, 4, law - 3);
            sentence(11, "horse: 0.");
            wear(g, 5, 0);
        }
    }

    private static void does() {
        sentence(11, "1000, and what one SHIVERS at the next SAYING (what 0; 0, if none is left), NEEDS (1), WEARS (2) now. BAD.");
        due("no SAYINGS at all", Edge.courtOf("hearer;").does(0, 0), 1000);
        Edge.leaves("none is left, a hearer", Edge::busyAllSaid, b -> b.does(0, 0), 1000);
        Edge.leaves("none is left, an advocate", Edge::busyAllSaid, b -> b.does(2, 0), 1000);
        GooseArms liar = Edge.courtOf("say 0;liar;");
        due("the last one is left", liar.does(0, 0), 1015);
        liar.say(1);
        due("none is left, a liar", liar.does(0, 0), 1000);
        due("none is left, NEEDS as ever", liar.does(0, 1), 1003);
        due("none is left, WEARS as ever", liar.does(0, 2), 998);
        for (int what : new int[] {-1, 3, MIN, MAX}) {
            busy("what " + what, b -> b.does(0, what), BAD);
        }
        for (int none : new int[] {-1, 3, 8, MIN, MAX}) {
            for (int what = 0; what < 3; what++) {
                int w = what;
                busy("nobody " + none, b -> b.does(none, w), BAD);
            }
        }
    }

    private static void mind() {
        sentence(12, "One becomes one of another KIND, with another MIND: the KIND that it was. BAD.");
        GooseArms g = Edge.busy();
        due("the greatest", g.mind(2, 5, 255), 2);
        due("KIND 5", g.of(2, 0), 5);
        due("MIND 255", g.of(2, 2), 255);
        due("the least", g.mind(2, 0, 0), 5);
        due("KIND 0", g.of(2, 0), 0);
        due("MIND 0", g.of(2, 2), 0);
        due("TENDER stays", g.of(2, 1), 16);
        due("ARM stays", g.of(2, 3), 1);
        due("the one before stays", g.of(1, 0), 1);
        due("the first", g.mind(0, 4, 1), 0);
        busy("KIND -1", b -> b.mind(0, -1, 0), BAD);
        busy("KIND 6", b -> b.mind(0, 6, 0), BAD);
        busy("MIND -1", b -> b.mind(0, 0, -1), BAD);
        busy("MIND 256", b -> b.mind(0, 0, 256), BAD);
        for (int none : new int[] {-1, 3, 8, MIN, MAX}) {
            busy("nobody " + none, b -> b.mind(none, 0, 0), BAD);
            if (none != 3) {
                busy("KIND far off", b -> b.mind(0, none, 0), BAD);
            }
        }
        busy("MIND far below", b -> b.mind(0, 0, MIN), BAD);
        busy("MIND far above", b -> b.mind(0, 0, MAX), BAD);
    }

    private static void tender() {
        sentence(13, "TENDER (0 to 99)");
        GooseArms g = Edge.busy();
        due("the greatest", g.tender(2, 99), 16);
        due("99", g.of(2, 1), 99);
        due("the least", g.tender(2, 0), 99);
        due("0", g.of(2, 1), 0);
        busy("-1", b -> b.tender(0, -1), BAD);
        busy("100", b -> b.tender(0, 100), BAD);
        busy("far below", b -> b.tender(0, MIN), BAD);
        busy("far above", b -> b.tender(0, MAX), BAD);
        sentence(13, "TENDER becomes v: what it was. BAD.");
        due("the one before stays", g.of(1, 1), 10);
        for (int none : new int[] {-1, 3, 8, MIN, MAX}) {
            busy("nobody " + none, b -> b.tender(none, 0), BAD);
        }
    }

    private static void say() {
        sentence(14, "n SAYINGS (1 to 60; as many as are left) are said: how many were said. BAD.");
        for (int n : new int[] {0, -1, 61, MIN, MAX}) {
            busy("say(" + n + ")", b -> b.say(n), BAD);
        }
        GooseArms g = Edge.twelveSayings();
        due("one", g.say(1), 1);
        due("just as many as are left", g.say(11), 11);
        due("none is left", g.say(1), 0);
        due("none is left", g.say(60), 0);
        Edge.leaves("none is left", Edge::busyAllSaid, b -> b.say(60), 0);
        Edge.leaves("none is left, and not so many", Edge::busyAllSaid, b -> b.say(61), BAD);
        due("60 of twelve", Edge.twelveSayings().say(60), 12);
        due("13 of twelve", Edge.twelveSayings().say(13), 12);
        due("no SAYINGS at all", new GooseArms().say(1), 0);
        sentence(14, "SAID is 1 more.");
        GooseArms one = Edge.twelveSayings();
        for (int i = 1; i <= 12; i++) {
            one.say(1);
            due("said so far", one.state(0), i);
        }
        one.say(1);
        due("none was left", one.state(0), 12);
    }

    /** One of a kind that shivers just as much as it needs at the first, and too little at the other. */
    private static void raises(String kind, String enough, String less) {
        GooseArms g = Edge.courtOf(enough + kind);
        g.say(1);
        due(kind + " as much: " + enough, g.of(0, 3), 1);
        due("whom it raised", g.sayingOf(0, 3), 1);
        GooseArms h = Edge.courtOf(less + kind);
        int tender = h.of(0, 1);
        h.say(1);
        due(kind + " less: " + less, h.of(0, 3), 0);
        due("whom it raised", h.sayingOf(0, 3), 0);
        due("TENDER stays", h.of(0, 1), tender);
    }

    private static void sayRaises() {
        sentence(14, "it raises each of HEARERS that SHIVERS at it as much as it NEEDS, or more");
        raises("hearer minds 0;", "say 0 heat 8;", "say 0 heat 7;");
        raises("hearer minds 1;", "say 0 heat 5;", "say 0 heat 4;");
        raises("judge minds 0;", "say 0 heat 7 so;", "say 0 heat 6 so;");
        raises("elder minds 0;", "say 0 heat 5;", "say 0 heat 4;");
        raises("advocate minds 0;", "say 0 heat 7;", "say 0 heat 6;");
        raises("liar minds 0;", "say 0 heat 5 so;", "say 0 heat 4 so;");
        raises("horse tender 6;cold 1;", "say 0 heat 8;", "say 0 heat 7;");
    }

    private static void heldAt(String kind, int tender, int want) {
        GooseArms g = Edge.courtOf("say 0 heat 9;cold 0;" + kind + " minds 0;");
        g.tender(0, tender);
        g.say(1);
        due(kind + " of " + tender + " is raised", g.of(0, 3), 1);
        due(kind + " of " + tender, g.of(0, 1), want);
    }

    private static void sayHolds() {
        sentence(14, "TENDER of each that it raised is what it WEARS less (held to 0 to 99)");
        heldAt("wear 9;hearer", 10, 1);
        heldAt("wear 9;hearer", 9, 0);
        heldAt("wear 9;hearer", 8, 0);
        heldAt("wear 9;hearer", 0, 0);
        heldAt("wear 9;elder", 19, 1);
        heldAt("wear 9;elder", 18, 0);
        heldAt("wear 9;elder", 17, 0);
        heldAt("wear 0;advocate", 96, 98);
        heldAt("wear 0;advocate", 97, 99);
        heldAt("wear 0;advocate", 98, 99);
        heldAt("wear 0;advocate", 99, 99);
        heldAt("wear 0;liar", 96, 99);
        heldAt("wear 0;liar", 97, 99);
        heldAt("wear 0;hearer", 99, 99);
        heldAt("wear 2;advocate", 99, 99);
        heldAt("wear 3;advocate", 0, 0);
        heldAt("wear 3;advocate", 1, 0);
    }

    private static void sayBegins() {
        sentence(14, "all by all as that begins");
        // 3 and 19 are 22, twice 44; the elder of 40 needs 14 and wears 18, of 22 it would need 12
        GooseArms g = Edge.courtOf("say 0 heat 7;say 0 heat 7;wear 9;elder tender 40 minds 0;");
        g.say(1);
        due("14 of 14", g.of(0, 3), 1);
        due("TENDER behind it", g.of(0, 1), 22);
        // worn to 22 it needs 12: 12 of 12 is enough only from then on
        g.alter(1, 1, 6);
        g.say(1);
        due("12 of 12", g.of(0, 3), 3);
        // what wears one leaves the others as they are
        GooseArms two = Edge.courtOf("say 0 heat 0;wear 9;hearer tender 8;hearer tender 8;hearer tender 7;");
        two.say(1);
        due("both of them", two.sayingOf(0, 3), 3);
        due("that isn't raised isn't worn", two.of(2, 1), 7);
    }

    private static void anew() {
        sentence(15, "SAID becomes 0, all ARMS are bare: what SAID was.");
        due("nothing at all", new GooseArms().anew(), 0);
        GooseArms g = Edge.twelveSayings();
        due("nothing said yet", g.anew(), 0);
        g.say(60);
        int tender = g.of(0, 1);
        due("all said", g.anew(), 12);
        due("SAID", g.state(0), 0);
        due("ARM", g.of(0, 3), 0);
        due("all are left", g.many(1), 12);
        due("TENDER stays", g.of(0, 1), tender);
        due("once more", g.anew(), 0);
        GooseArms eight = Edge.courtOf("say 0 heat 9;" + "hearer;".repeat(8));
        eight.say(1);
        eight.anew();
        due("all eight are bare", eight.state(4), 0);
        due("rows stay", rowsBehindAnew(), 2);
    }

    private static int rowsBehindAnew() {
        GooseArms g = Edge.busy();
        g.anew();
        return g.many(4);
    }

    private static void seed() {
        sentence(16, "z becomes v: what it was.");
        GooseArms g = new GooseArms();
        int was = 1;
        for (int v : new int[] {MIN, MAX, -1, 0, 1, -3, -2}) {
            due("seed(" + v + ")", g.seed(v), was);
            was = v;
        }
        due("as low as a refusal", g.seed(0), -2);
    }

    private static void draught() {
        sentence(17, "A SAYING BY DRAWS: whom it raised, as a set. NONE: none is left.");
        Edge.leaves("none is left", Edge::busyAllSaid, GooseArms::draught, NONE);
        Edge.leaves("no SAYINGS at all", GooseArms::new, GooseArms::draught, NONE);
        GooseArms g = Edge.twelveSayings();
        for (int i = 1; i <= 12; i++) {
            due("one is left", g.draught() >= 0 ? 1 : 0, 1);
            due("SAID", g.state(0), i);
        }
        due("none is left", g.draught(), NONE);
        due("SAID", g.state(0), 12);
        sentence(17, "Sets are told by bits.");
        GooseArms eight = Edge.courtOf("say 0 heat 9;" + "hearer;".repeat(8));
        due("all eight", eight.draught(), 255);
        sentence(17, "if there are HEARERS, a draw");
        GooseArms nobody = Edge.courtOf("say 0 heat 9;say 0;");
        nobody.seed(77);
        due("nobody", nobody.draught(), 0);
        due("it was said", nobody.state(0), 1);
        due("z stays", nobody.seed(77), 77);
    }

    /** z behind a draw, from 0 to 2 to the 32nd less 1: without an int that wraps. */
    private static long next(long z) {
        return (Math.floorMod(z, 1L << 32) * 1103515245L + 12345L) % (1L << 32);
    }

    private static void draws() {
        sentence(17, "z >>> 16 is drawn.");
        // 1 becomes 1103527590 (drawn 16838), then 2524885223 (38526), as an int -1770082073
        GooseArms g = Edge.courtOf("say 0 heat 0;draught 27;" + "horse minds 0;".repeat(8));
        due("16838 by 8 leaves 6", g.draught(), 1 << 6);
        due("z", g.seed(0), -1770082073);
        // from 1103527590 on: 38526 of a z below 0, then 662824084 (10113)
        GooseArms below = Edge.courtOf("say 0 heat 0;draught 14;" + "horse minds 0;".repeat(7));
        below.seed(1103527590);
        due("38526 by 7 leaves 5", below.draught(), 1 << 5);
        due("z", below.seed(0), 662824084);
        sentence(17, "the one that it leaves by how many there are");
        for (int hearers = 1; hearers <= 8; hearers++) {
            for (int one : new int[] {0, hearers - 1}) {
                GooseArms h = Edge.courtOf("say 0 heat 0;draught 99;" + "horse minds 0;".repeat(hearers));
                h.seed(seedFor(hearers, one, 0));
                due("of " + hearers + " the one " + one, h.draught(), 1 << one);
            }
        }
    }

    private static int seedFor(int hearers, int one, int hundredth) {
        for (int z = 0; z < 1000000; z++) {
            long first = next(z);
            if (first / 65536 % hearers == one && next(first) / 65536 % 100 == hundredth) {
                return z;
            }
        }
        due("the test's own z for " + one + " and " + hundredth, 0, 1);
        return 0;
    }

    private static void drawsWrap() {
        sentence(17, "becomes z * 1103515245 + 12345");
        for (int z : new int[] {MIN, MIN + 1, -1, 0, 1, MAX - 1, MAX}) {
            long first = next(z);
            long second = next(first);
            int one = (int) (first / 65536 % 5);
            boolean raised = second / 65536 % 100 < 50;
            GooseArms g = Edge.courtOf("say 0 heat 0;draught 50;" + "horse minds 0;".repeat(5));
            g.seed(z);
            due("from " + z, g.draught(), raised ? 1 << one : 0);
            due("z from " + z, g.seed(0), (int) second);
        }
    }

    private static void drawsBelow() {
        sentence(17, "if what that leaves by 100 is below DRAUGHT, the SAYING raises that one in any case");
        int[] draughts = {0, 1, 1, 20, 20, 20, 99, 99};
        int[] leaves = {0, 0, 1, 19, 20, 21, 98, 99};
        int[] raised = {0, 1, 0, 1, 0, 0, 1, 0};
        for (int i = 0; i < draughts.length; i++) {
            GooseArms g = Edge.courtOf("say 0 heat 0;draught " + draughts[i] + ";hearer minds 0;");
            int z = seedFor(1, 0, leaves[i]);
            g.seed(z);
            due(leaves[i] + " of " + draughts[i], g.draught(), raised[i]);
            due("ARM", g.of(0, 3), raised[i]);
            due("TENDER", g.of(0, 1), 3 - raised[i]);
            due("two draws all the same", g.seed(0), (int) next(next(z)));
        }
    }

    private static void drawsInAnyCase() {
        sentence(17, "the SAYING raises that one in any case; then it is said.");
        GooseArms both = Edge.courtOf("say 0 heat 9;draught 99;hearer tender 50;");
        both.seed(seedFor(1, 0, 0));
        due("raised anyway", both.draught(), 1);
        due("worn once", both.of(0, 1), 49);
        // at an odd number the horse shivers at nothing
        GooseArms horse = Edge.courtOf("say 0 heat 0;say 0 heat 9;draught 99;horse tender 99;");
        horse.say(1);
        horse.seed(seedFor(1, 0, 0));
        due("the horse at 1", horse.draught(), 1);
        due("its ARM", horse.of(0, 3), 3);
        GooseArms liar = Edge.courtOf("say 0 heat 0 so;draught 99;wear 0;liar tender 98 minds 0;");
        liar.seed(seedFor(1, 0, 0));
        due("the liar", liar.draught(), 1);
        due("held to 99", liar.of(0, 1), 99);
    }

    private static void chills() {
        sentence(18, "CHILLS (n 1 to 30). BAD.");
        for (int n : new int[] {0, -1, 31, MIN, MAX}) {
            busy("chills(" + n + ")", b -> b.chills(n), BAD);
        }
        Edge.leaves("31 when none is left", Edge::busyAllSaid, b -> b.chills(31), BAD);
        sentence(18, "0, if none is left, z stays then");
        Edge.leaves("none is left", Edge::busyAllSaid, b -> b.chills(30), 0);
        Edge.leaves("no SAYINGS at all", GooseArms::new, b -> b.chills(1), 0);
        sentence(18, "if there are HEARERS, a draw");
        GooseArms nobody = Edge.courtOf("say 0;draught 99;");
        due("nobody", nobody.chills(30), 0);
        due("z stays", nobody.seed(1), 1);
    }

    /** In how many of n tries the one of so many is hit that isn't raised anyway. */
    private static int hits(long seed, int n, int hearers, int draught, int anyway) {
        long z = seed;
        int count = 0;
        for (int i = 0; i < n; i++) {
            z = next(z);
            int one = (int) (z / 65536 % hearers);
            z = next(z);
            if (z / 65536 % 100 < draught && (anyway >> one & 1) == 0) {
                count++;
            }
        }
        return count;
    }

    private static GooseArms lastOfTwo() {
        // left is the second: it raises the hearer of 8 alone, not the horse, nor the advocate of 6 in mind
        GooseArms g = Edge.courtOf("say 0 heat 0;say 0 heat 0;draught 60;hearer tender 8;horse tender 99;advocate tender 6;");
        g.mind(1, 0, 0);
        g.say(1);
        g.mind(1, 5, 255);
        g.tender(0, 8);
        g.seed(-7);
        return g;
    }

    private static void chillsTries() {
        sentence(18, "each tried from how all is now (z alone goes on), more are raised by it than by the next SAYING as it is "
            + "(nothing changes, z neither");
        GooseArms g = lastOfTwo();
        due("raised anyway", g.arm(0, 1) >> 1 & 1, 1);
        due("not the horse", g.arm(1, 1) >> 1 & 1, 0);
        due("not the advocate", g.arm(2, 1) >> 1 & 1, 0);
        for (int n : new int[] {1, 2, 3, 29, 30}) {
            Edge.leaves("chills(" + n + ")", EdgesCaseTest::lastOfTwo, b -> b.chills(n), hits(-7, n, 3, 60, 1));
        }
        due("some of thirty, not all", hits(-7, 30, 3, 60, 1) > 3 && hits(-7, 30, 3, 60, 1) < 27 ? 1 : 0, 1);
        GooseArms anyway = Edge.courtOf("say 0 heat 9;draught 99;hearer;");
        due("who is raised anyway", anyway.chills(30), 0);
        GooseArms never = Edge.courtOf("say 0 heat 0;draught 0;hearer minds 0;");
        due("no draughts", never.chills(30), 0);
        GooseArms often = Edge.courtOf("say 0 heat 0;draught 99;hearer minds 0;");
        due("all but what leaves 99", often.chills(30), hits(1, 30, 1, 99, 0));
        often.seed(seedFor(1, 0, 99));
        due("99 is not below 99", often.chills(1), 0);
        often.seed(seedFor(1, 0, 98));
        due("98 is", often.chills(1), 1);
        busy("chills(30)", b -> b.chills(30), hits(12345, 30, 3, 30, raisedNextInBusy()));
    }

    private static int raisedNextInBusy() {
        GooseArms g = Edge.busy();
        g.say(1);
        return g.sayingOf(1, 3);
    }

    private static void state() {
        sentence(19, "What = 0 SAID, 1 how many SAYINGS there are, 2 those that are SO, as a set, 3 TENDER of all together, "
            + "4 those of HEARERS whose ARMS are not bare, as a set, 5 ALIKE. BAD.");
        for (int what : new int[] {-1, 6, MIN, MAX}) {
            busy("state(" + what + ")", b -> b.state(what), BAD);
        }
        GooseArms empty = new GooseArms();
        for (int what = 0; what < 6; what++) {
            due("nothing at all, " + what, empty.state(what), 0);
        }
        GooseArms full = Edge.courtOf("say 0 so;".repeat(12));
        Edge.told(full, "");
        for (int i = 0; i < 12; i++) {
            full.saying(i % 8, 9, 1);
        }
        for (int i = 0; i < 8; i++) {
            full.hearer(0, 99, 0);
        }
        due("all twelve SO", full.state(2), 4095);
        due("eight times 99", full.state(3), 792);
        due("all are bare", full.state(4), 0);
        full.say(12);
        due("all said", full.state(0), 12);
        due("twelve of them", full.state(1), 12);
        due("none is bare", full.state(4), 255);
        due("worn by twelve", full.state(3), 8 * 87);
        for (int i = 1; i < 11; i++) {
            full.alter(i, 2, 0);
        }
        due("the first and the last SO", full.state(2), 1 + 2048);
    }

    private static void asItIsAlready() {
        sentence(4, "A LAW becomes v: what it was.");
        busy("COLD as it is", g -> g.set(0, 1), 1);
        busy("DRAUGHT as it is", g -> g.set(3, 30), 30);
        sentence(8, "of a SAYING becomes v: what it was.");
        busy("TOPIC as it is", g -> g.alter(3, 0, 3), 3);
        busy("HEAT as it is", g -> g.alter(0, 1, 9), 9);
        busy("SO as it is", g -> g.alter(0, 2, 1), 1);
        sentence(12, "One becomes one of another KIND, with another MIND: the KIND that it was.");
        busy("KIND and MIND as they are", g -> g.mind(1, 1, 254), 1);
        sentence(13, "TENDER becomes v: what it was.");
        busy("TENDER as it is", g -> g.tender(2, 16), 16);
        sentence(15, "SAID becomes 0, all ARMS are bare: what SAID was.");
        Edge.leaves("bare as they are", EdgesCaseTest::busyAnew, GooseArms::anew, 0);
        sentence(16, "z becomes v: what it was.");
        busy("z as it is", g -> g.seed(12345), 12345);
    }

    private static GooseArms busyAnew() {
        GooseArms g = Edge.busy();
        g.anew();
        return g;
    }

    private static void alike() {
        sentence(19, "ALIKE: the most HEARERS of whom all ARMS are the same then.");
        due("nobody", Edge.courtOf("say 0;").state(5), 0);
        due("one", Edge.courtOf("say 0;hearer;").state(5), 1);
        due("all eight, bare", Edge.courtOf("hearer;".repeat(8)).state(5), 8);
        due("all eight, raised", Edge.courtOf("say 0 heat 9;" + "hearer;".repeat(8)).state(5), 8);
        GooseArms halves = Edge.courtOf("say 0 heat 9;" + "hearer;horse minds 0;".repeat(4));
        due("four and four", halves.state(5), 4);
        halves.mind(7, 0, 0);
        due("three and five", halves.state(5), 5);
        GooseArms all = Edge.courtOf("say 0 heat 0;say 1 heat 0;cold 0;wear 0;"
            + "hearer tender 6 minds 1;hearer tender 6 minds 2;hearer tender 6 minds 3;");
        due("no two alike", all.state(5), 1);
        all.say(1);
        due("two alike now, none then", all.state(5), 1);
        GooseArms twelfth = Edge.courtOf("say 0 heat 0;".repeat(11) + "say 7;hearer minds 1;hearer minds 128;");
        due("the twelfth tells them apart", twelfth.state(5), 1);
        twelfth.alter(11, 0, 6);
        due("it doesn't any more", twelfth.state(5), 2);
        Edge.leaves("ALIKE is tried", Edge::busy, b -> b.state(5), 2);
    }
}
