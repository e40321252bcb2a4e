/** The edges of promises 20 to 31: what is tried, and odds. */
public final class EdgesTriedTest {
    private static final int BAD = Edge.BAD, NONE = Edge.NONE;
    private static final int MIN = Edge.MIN, MAX = Edge.MAX;
    private static final String NOTHING_CHANGES = "What is asked here is TRIED; nothing changes.";
    private static final String LEAST = "of several the least";
    private static final int[] NOBODY = {-1, 3, 8, MIN, MAX};
    private static final int[] NO_SAYING = {-1, 4, 12, MIN, MAX};

    public static void main(String[] args) {
        nothingChanges();
        nobody();
        arm();
        raised();
        right();
        topicFor();
        topicForSaid();
        heatFor();
        heatForSaid();
        kindFor();
        tenderFor();
        tenderForMost();
        nextFor();
        nextForPlaces();
        enough();
        enoughOfEight();
        fits();
        fitsNumbers();
        fitsLeft();
        fitsRefused();
        odds();
        oddsParts();
        hope();
        Edge.everyPromise(20, 31);
        Edge.ends();
    }

    private static void sentence(int promise, String text) {
        Edge.sentence(promise, text);
    }

    private static void due(String what, long got, long want) {
        Edge.due(what, got, want);
    }

    private static void busy(String what, Edge.Call call, long want) {
        Edge.leaves(what, Edge::busy, call, want);
    }

    /** What is answered is looked at elsewhere; here it is that nothing comes of the question. */
    private static void asks(int promise, String what, Edge.Call call) {
        sentence(promise, NOTHING_CHANGES);
        busy(what, call, call.on(Edge.busy()));
    }

    private static void nothingChanges() {
        asks(20, "arm(0, 60)", g -> g.arm(0, 60));
        asks(21, "raised(1)", g -> g.raised(1));
        asks(22, "right(0)", g -> g.right(0));
        asks(23, "topicFor(2)", g -> g.topicFor(2));
        asks(24, "heatFor(3, 2)", g -> g.heatFor(3, 2));
        asks(25, "kindFor(1)", g -> g.kindFor(1));
        asks(26, "tenderFor(1)", g -> g.tenderFor(1));
        asks(27, "nextFor(2)", g -> g.nextFor(2));
        asks(28, "enough()", GooseArms::enough);
        asks(29, "fits(0, 0, 1)", g -> g.fits(0, 0, 1));
        asks(30, "odds(8, 3, 0)", g -> g.odds(8, 3, 0));
        asks(31, "hope(99, 1)", g -> g.hope(99, 1));
    }

    private static void nobody() {
        for (int one : NOBODY) {
            sentence(20, "ARM of one by n (0 to 60). BAD.");
            busy("arm(" + one + ", 1)", g -> g.arm(one, 1), BAD);
            sentence(21, "RAISED first. BAD; NONE: not by then.");
            busy("raised(" + one + ")", g -> g.raised(one), BAD);
            sentence(22, "RIGHT of one. BAD.");
            busy("right(" + one + ")", g -> g.right(one), BAD);
            sentence(24, "HEAT FOR a SAYING and one. BAD");
            busy("heatFor(1, " + one + ")", g -> g.heatFor(1, one), BAD);
            busy("heatFor of one that was said, " + one, g -> g.heatFor(0, one), BAD);
            sentence(25, "KIND FOR one. BAD.");
            busy("kindFor(" + one + ")", g -> g.kindFor(one), BAD);
            sentence(26, "TENDER FOR one. BAD.");
            busy("tenderFor(" + one + ")", g -> g.tenderFor(one), BAD);
            sentence(27, "NEXT FOR one. BAD; NONE: none is left.");
            busy("nextFor(" + one + ")", g -> g.nextFor(one), BAD);
            Edge.leaves("nextFor(" + one + "), none left", Edge::busyAllSaid, g -> g.nextFor(one), BAD);
            sentence(29, "BAD: no such SHEET, one, what; -11; NONE (what 1): none.");
            busy("fits(0, " + one + ", 0)", g -> g.fits(0, one, 0), BAD);
            busy("fits by a missing SHEET, " + one, g -> g.fits(3, one, 0), BAD);
        }
        for (int saying : NO_SAYING) {
            sentence(23, "TOPIC FOR a SAYING. BAD; NONE: it was said.");
            busy("topicFor(" + saying + ")", g -> g.topicFor(saying), BAD);
            sentence(24, "HEAT FOR a SAYING and one. BAD");
            busy("heatFor(" + saying + ", 0)", g -> g.heatFor(saying, 0), BAD);
        }
    }

    private static void arm() {
        sentence(20, "ARM of one by n (0 to 60). BAD.");
        for (int n : new int[] {-1, 61, MIN, MAX}) {
            busy("arm(0, " + n + ")", g -> g.arm(0, n), BAD);
        }
        GooseArms g = Edge.courtOf("say 0 heat 9;".repeat(12) + "hearer minds 0;");
        due("by 0", g.arm(0, 0), 0);
        due("by 1", g.arm(0, 1), 1);
        due("by 11", g.arm(0, 11), 2047);
        due("by 12", g.arm(0, 12), 4095);
        sentence(20, "(all that are left, if they are fewer)");
        due("by 13", g.arm(0, 13), 4095);
        due("by 60", g.arm(0, 60), 4095);
        g.say(11);
        due("by 0, 11 said", g.arm(0, 0), 2047);
        due("by 1, 11 said", g.arm(0, 1), 4095);
        due("by 2, 11 said", g.arm(0, 2), 4095);
        g.say(1);
        due("by 0, none left", g.arm(0, 0), 4095);
        due("by 60, none left", g.arm(0, 60), 4095);
        due("no SAYINGS at all", Edge.courtOf("hearer;").arm(0, 60), 0);
    }

    private static void raised() {
        sentence(21, "RAISED first: behind the fewest that are said from now on (0 to as many as are left) anything is on its ARM.");
        GooseArms g = Edge.courtOf("say 0 heat 0;".repeat(11) + "say 0 heat 9;hearer minds 0;horse minds 0;");
        due("behind all twelve", g.raised(0), 12);
        g.say(10);
        due("behind the two that are left", g.raised(0), 2);
        g.say(1);
        due("behind the one that is left", g.raised(0), 1);
        g.say(1);
        due("it is already, none is left", g.raised(0), 0);
        GooseArms two = Edge.courtOf("say 0 heat 9;say 0 heat 9;hearer;");
        two.say(1);
        due("it is already, one is left", two.raised(0), 0);
        due("behind the first", Edge.courtOf("say 0 heat 9;say 0 heat 9;hearer;").raised(0), 1);
        sentence(21, "NONE: not by then.");
        due("not by all that are left", g.raised(1), NONE);
        g.say(60);
        due("none is left", g.raised(1), NONE);
        due("no SAYINGS at all", Edge.courtOf("hearer;").raised(0), NONE);
        due("not by all twelve", Edge.courtOf("say 0 heat 0;".repeat(12) + "horse minds 0;").raised(0), NONE);
    }

    private static void right() {
        sentence(22, "RIGHT of one: of all SAYINGS, when all that are left were said, how many are on its ARM and SO, or neither.");
        due("no SAYINGS at all", Edge.courtOf("hearer;").right(0), 0);
        due("on its ARM and SO", Edge.courtOf("say 0 heat 9 so;hearer;").right(0), 1);
        due("on its ARM, not SO", Edge.courtOf("say 0 heat 9;hearer;").right(0), 0);
        due("not on its ARM, SO", Edge.courtOf("say 0 heat 0 so;horse minds 0;").right(0), 0);
        due("neither", Edge.courtOf("say 0 heat 0;horse minds 0;").right(0), 1);
        due("the twelfth's TOPIC, too", Edge.courtOf("say 0 heat 0;".repeat(11) + "say 7 so;hearer minds 128;").right(0), 12);
        GooseArms g = Edge.courtOf("say 0 so;".repeat(12) + "wear 0;hearer;horse minds 0;");
        due("all twelve", g.right(0), 12);
        due("none of twelve", g.right(1), 0);
        g.say(60);
        due("all were said", g.right(0), 12);
        // from now on the kind would raise nothing, but what was raised is on the ARM
        g.mind(0, 5, 0);
        due("as it was raised", g.right(0), 12);
        g.anew();
        due("as it would be", g.right(0), 0);
    }

    private static void topicFor() {
        sentence(23, "the TOPIC of which it raises most, when all that are left were said; of several the least.");
        due("nobody: the least", Edge.courtOf("say 5;").topicFor(0), 0);
        due("whatever it is: the least", Edge.courtOf("say 5 heat 9;hearer;").topicFor(0), 0);
        due("never, whatever it is", Edge.courtOf("say 5 heat 0;horse tender 1;").topicFor(0), 0);
        for (int topic = 0; topic < 8; topic++) {
            due("TOPIC " + topic + " alone", Edge.courtOf("say 5 heat 0;hearer tender 8 minds " + (1 << topic) + ";").topicFor(0), topic);
        }
        due("two and two: the least", Edge.courtOf("say 0 heat 0;hearer tender 8 minds 136;hearer tender 8 minds 136;").topicFor(0), 3);
        due("one and two", Edge.courtOf("say 0 heat 0;hearer tender 8 minds 8;hearer tender 8 minds 128;hearer tender 8 minds 128;").topicFor(0), 7);
        // what is said before it wears: 8 are 7 by then
        due("when it comes to it", Edge.courtOf("say 1 heat 0;say 0 heat 0;hearer tender 8 minds 6;hearer tender 8 minds 8;").topicFor(1), 3);
        GooseArms last = Edge.courtOf("say 0;".repeat(12) + "hearer tender 99 minds 128;wear 0;cold 9;");
        due("the twelfth", last.topicFor(11), 7);
    }

    private static void topicForSaid() {
        sentence(23, "NONE: it was said.");
        busy("the last that was said", g -> g.topicFor(0), NONE);
        busy("the first that wasn't", g -> g.topicFor(1) >= 0 ? 1 : 0, 1);
        busy("the last", g -> g.topicFor(3) >= 0 ? 1 : 0, 1);
        Edge.leaves("the last, all said", Edge::busyAllSaid, g -> g.topicFor(3), NONE);
        due("no SAYINGS at all", Edge.courtOf("hearer;").topicFor(0), BAD);
    }

    private static void heatFor() {
        sentence(24, "HEAT FOR a SAYING that wasn't said and one: the least HEAT (0 to 9) with which it raises that one then.");
        GooseArms g = Edge.courtOf("say 0 heat 5;hearer tender 8;cold 2;");
        due("8 of 8: none needed", g.heatFor(0, 0), 0);
        g.tender(0, 9);
        due("9 of 8: none needed", g.heatFor(0, 0), 0);
        g.tender(0, 7);
        due("7 of 8", g.heatFor(0, 0), 1);
        g.tender(0, 0);
        due("0 of 8", g.heatFor(0, 0), 8);
        g.set(0, 3);
        due("0 of 9", g.heatFor(0, 0), 9);
        sentence(24, "NONE: with none (also if it was said).");
        g.set(0, 4);
        due("0 of 10", g.heatFor(0, 0), NONE);
        due("the horse at 1", Edge.courtOf("say 0;say 0;horse tender 99;").heatFor(1, 0), NONE);
        due("the elder, by twos: 5 of 10", Edge.courtOf("say 0;elder tender 0;").heatFor(0, 0), 5);
        // 8 are 7 behind the first
        due("when it comes to it", Edge.courtOf("say 0 heat 0;say 0 heat 0;hearer tender 8;").heatFor(1, 0), 1);
        due("the twelfth, none said", Edge.courtOf("say 0;".repeat(12) + "hearer minds 0;").heatFor(11, 0), 8);
        due("the first of twelve", Edge.courtOf("say 0;".repeat(12) + "hearer minds 0;").heatFor(0, 0), 8);
    }

    private static void heatForSaid() {
        sentence(24, "NONE: with none (also if it was said).");
        busy("the last that was said", g -> g.heatFor(0, 0), NONE);
        busy("the first that wasn't: 6 of 7", g -> g.heatFor(1, 0), 1);
        Edge.leaves("the last, all said", Edge::busyAllSaid, g -> g.heatFor(3, 0), NONE);
        sentence(24, "of several the first named");
        Edge.leaves("nobody, all said", Edge::busyAllSaid, g -> g.heatFor(3, 3), BAD);
        Edge.leaves("no SAYING, all said", Edge::busyAllSaid, g -> g.heatFor(4, 0), BAD);
    }

    private static void kindFor() {
        sentence(25, "KIND FOR one: the KIND as one of which RIGHT of it is greatest; of several the least.");
        due("no SAYINGS at all: the least", Edge.courtOf("horse;").kindFor(0), 0);
        due("none is left: the least", allSaid("horse;").kindFor(0), 0);
        due("right as any but a horse: the least", Edge.courtOf("say 0 heat 9 so;liar;").kindFor(0), 0);
        due("a judge: 7 and 3 of 10, 7 of 10", Edge.courtOf("say 0 heat 7 so;say 0 heat 7;liar minds 0;").kindFor(0), 1);
        // an elder has 14 and 12 of 10, a liar is raised by all that isn't SO, the others by neither
        due("an advocate: 5 of 5, 4 of 5", Edge.courtOf("say 0 heat 7 so;say 0 heat 6;oath 0;horse minds 0;").kindFor(0), 2);
        due("an elder: 10 of 10, 8 of 10", Edge.courtOf("say 0 heat 2 so;say 0 heat 4;horse minds 0;").kindFor(0), 3);
        // 9 colder all the others need more than 10, and COLD is nothing to a liar
        due("a liar: 3 of 3", Edge.courtOf("say 0 heat 5 so;oath 0;cold 9;horse minds 0;").kindFor(0), 4);
        due("a horse", Edge.courtOf("say 0 heat 1 so;say 0 heat 1;say 0 heat 1 so;say 0 heat 1;hearer tender 29;").kindFor(0), 5);
    }

    private static GooseArms allSaid(String text) {
        GooseArms g = Edge.courtOf("say 0 heat 9;say 0 heat 9 so;" + text);
        g.say(60);
        return g;
    }

    private static void tenderFor() {
        sentence(26, "TENDER FOR one: how TENDER (0 to 99) it had best be now, so that RIGHT of it is greatest; of several the least.");
        due("no SAYINGS at all: the least", Edge.courtOf("hearer tender 50;").tenderFor(0), 0);
        due("none is left: the least", allSaid("hearer tender 50;").tenderFor(0), 0);
        due("raised by none, not so: the least", Edge.courtOf("say 0 heat 0;hearer tender 50;").tenderFor(0), 0);
        due("raised whatever it is, not so: the least", Edge.courtOf("say 0 heat 9;hearer tender 50;").tenderFor(0), 0);
        due("8 of 8", Edge.courtOf("say 0 heat 0 so;hearer tender 50;").tenderFor(0), 8);
        due("1 of 8 wanting", Edge.courtOf("say 0 heat 7 so;hearer tender 50;").tenderFor(0), 1);
        due("0 are enough", Edge.courtOf("say 0 heat 8 so;hearer tender 50;").tenderFor(0), 0);
        due("of the horse at cold 9: 30", Edge.courtOf("say 0 heat 0 so;horse;cold 9;").tenderFor(0), 30);
    }

    private static void tenderForMost() {
        sentence(26, "how TENDER (0 to 99) it had best be now");
        // it must have 6 and COLD at the last of them yet, and each wears 9
        GooseArms g = new GooseArms();
        for (int i = 0; i < 11; i++) {
            g.saying(0, 0, 1);
        }
        g.hearer(0, 3, 255);
        g.set(2, 9);
        g.set(0, 3);
        due("10 times 9 worn and 9", g.tenderFor(0), 99);
        g.set(0, 2);
        due("10 times 9 worn and 8", g.tenderFor(0), 98);
        g.set(0, 4);
        due("100 can't be, but all others: 9 times 9 worn and 10", g.tenderFor(0), 91);
    }

    private static void nextFor() {
        sentence(27, "NONE: none is left.");
        Edge.leaves("none is left", Edge::busyAllSaid, g -> g.nextFor(0), NONE);
        due("no SAYINGS at all", Edge.courtOf("hearer;").nextFor(0), NONE);
        sentence(27, "changing places with the next one now (itself, if it is that), makes RIGHT of it greatest; of several the least.");
        due("one is left", Edge.courtOf("say 0 heat 9;hearer;").nextFor(0), 0);
        GooseArms g = Edge.courtOf("say 0 heat 9;".repeat(12) + "hearer;");
        due("all the same: itself", g.nextFor(0), 0);
        g.say(5);
        due("all the same: the next one", g.nextFor(0), 5);
        g.say(6);
        due("the last", g.nextFor(0), 11);
        // 5 and 3 are 8, worn to 0 by that: only the first of these is raised
        GooseArms worn = Edge.courtOf("say 0 heat 3;".repeat(11) + "say 0 heat 3 so;wear 5;hearer tender 5;");
        due("the twelfth", worn.nextFor(0), 11);
        worn.alter(4, 2, 1);
        due("the fifth or the twelfth: the least", worn.nextFor(0), 4);
        worn.alter(0, 2, 1);
        due("itself is as good", worn.nextFor(0), 0);
        worn.alter(0, 2, 0);
        worn.say(5);
        worn.tender(0, 5);
        due("what was said doesn't count", worn.nextFor(0), 11);
    }

    private static void nextForPlaces() {
        sentence(27, "changing places with the next one now");
        // TOPIC, HEAT and SO all go with it
        GooseArms topics = Edge.courtOf("say 0 heat 0;say 3 heat 0;say 1 heat 0 so;wear 9;hearer tender 8 minds 10;");
        due("the TOPIC goes with it", topics.nextFor(0), 2);
        GooseArms heats = Edge.courtOf("say 0 heat 4;say 0 heat 6;say 0 heat 6 so;wear 9;hearer tender 2;cold 2;");
        due("the HEAT goes with it", heats.nextFor(0), 2);
        // the horse hears number 0 alone
        GooseArms horse = Edge.courtOf("say 0 heat 1;say 0 heat 9 so;horse tender 7;");
        due("the number doesn't go with it", horse.nextFor(0), 1);
        // whichever comes next, just one of the three is not right
        GooseArms three = Edge.courtOf("say 0 heat 1;say 0 heat 1 so;say 0 heat 9 so;horse tender 7;");
        due("itself", three.nextFor(0), 0);
    }

    private static void enough() {
        sentence(28, "ENOUGH: the set of fewest HEARERS such that each SAYING that is SO is on the ARM of one of these");
        due("nothing at all", new GooseArms().enough(), 0);
        due("nobody, nothing is SO", Edge.courtOf("say 0 heat 9;").enough(), 0);
        due("nothing is SO", Edge.courtOf("say 0 heat 9;hearer;").enough(), 0);
        due("one", Edge.courtOf("say 0 heat 9 so;hearer;").enough(), 1);
        due("not SO must not be there", Edge.courtOf("say 0 heat 9 so;say 0 heat 0;hearer minds 0;").enough(), 1);
        sentence(28, "NONE: by no set.");
        due("nobody, one is SO", Edge.courtOf("say 0 heat 9 so;").enough(), NONE);
        due("one of two", Edge.courtOf("say 0 heat 9 so;say 0 heat 0 so;hearer minds 0;").enough(), NONE);
        due("none at all", Edge.courtOf("say 0 heat 0 so;hearer minds 0;").enough(), NONE);
        sentence(28, LEAST);
        due("of eight alike the first", Edge.courtOf("say 0 heat 9 so;" + "hearer;".repeat(8)).enough(), 1);
        due("the last alone", Edge.courtOf("say 0 heat 9 so;" + "horse minds 0;".repeat(7) + "hearer;").enough(), 128);
        GooseArms g = Edge.courtOf("say 0 heat 0 so;say 1 heat 0 so;wear 0;hearer tender 8 minds 1;hearer tender 8 minds 2;"
            + "hearer tender 8 minds 3;hearer tender 8 minds 1;");
        due("one rather than two before it", g.enough(), 4);
        g.tender(2, 0);
        due("the first two", g.enough(), 3);
        g.tender(0, 0);
        due("the second and the fourth", g.enough(), 10);
        sentence(28, "when all that are left were said");
        due("already said", allSaid("hearer;").enough(), 1);
        due("the twelfth is left, too", Edge.courtOf("say 0;".repeat(11) + "say 7 heat 0 so;hearer;hearer tender 8 minds 128;").enough(), 2);
        due("the twelfth alone is by nobody", Edge.courtOf("say 0 so;".repeat(11) + "say 7 heat 0 so;wear 0;hearer;").enough(), NONE);
    }

    private static void enoughOfEight() {
        sentence(28, "the set of fewest HEARERS");
        StringBuilder text = new StringBuilder();
        for (int i = 0; i < 8; i++) {
            text.append("say ").append(i).append(" so;");
        }
        GooseArms g = Edge.courtOf(text.toString());
        for (int i = 0; i < 8; i++) {
            g.hearer(0, 3, 1 << i);
        }
        due("all eight", g.enough(), 255);
        g.mind(7, 0, 192);
        due("the eighth is worn by the seventh SAYING", g.enough(), NONE);
        g.set(2, 0);
        due("the eighth for two", g.enough(), 191);
        g.tender(7, 2);
        due("one is by nobody", g.enough(), NONE);
    }

    private static GooseArms withSheet(int... numbers) {
        GooseArms g = Edge.courtOf("say 0 heat 3;say 1 heat 0;say 0 heat 4;hearer tender 50 minds 1;");
        g.sheet(0, 2, numbers.length);
        for (int i = 0; i < numbers.length; i++) {
            g.put(0, i, numbers[i]);
        }
        return g;
    }

    private static void fit(String what, GooseArms g, int count, int least) {
        due(what + ": how many", g.fits(0, 0, 0), count);
        due(what + ": the least", g.fits(0, 0, 1), least);
    }

    private static void fits() {
        sentence(29, "FITS of one by a SHEET: those numbers (0 to 99) that might be its TENDER now");
        fit("none told", withSheet(), 100, 0);
        fit("raised by 3: from 5 on", withSheet(1), 95, 5);
        fit("not raised by 3: up to 4", withSheet(0), 5, 0);
        // cold 9, heat 0, a horse needs 30
        GooseArms horse = withSheet(1);
        horse.mind(0, 5, 1);
        horse.set(0, 9);
        fit("from 27 on", horse, 73, 27);
        sentence(29, "(-1: any; any, too, when none is left)");
        fit("any", withSheet(-1, -1, -1), 100, 0);
        fit("any at first, then the second", withSheet(-1, 0), 100, 0);
        fit("any at first, 4 and 4 raise at the third", withSheet(-1, -1, 1), 96, 4);
        fit("5 worn to 4, 4 and 4 raise at the third", withSheet(1, 0, 1), 95, 5);
        fit("5 worn to 4, 4 and 4 are 8", withSheet(1, 0, 0), 0, NONE);
        sentence(29, "NONE (what 1): none.");
        fit("the second raises none", withSheet(-1, 1), 0, NONE);
    }

    private static void fitsNumbers() {
        sentence(29, "raise it (1) or not (0), as the numbers of the SHEET tell (-1: any");
        for (int other : new int[] {2, -2, 3, 127, -128, 255, MIN, MAX}) {
            fit("a number that tells neither: " + other, withSheet(other), 0, NONE);
        }
        for (int sort = 0; sort < 4; sort++) {
            GooseArms g = withSheet();
            g.sheet(0, sort, 1);
            fit("sort " + sort + ", 0", g, 5, 0);
            g.put(0, 0, 1);
            fit("sort " + sort + ", 1", g, 95, 5);
            g.put(0, 0, -1);
            fit("sort " + sort + ", -1", g, 100, 0);
            g.put(0, 0, 65535);
            fit("sort " + sort + ", 65535: -1 as a byte and as a short", g, sort < 2 ? 100 : 0, sort < 2 ? 0 : NONE);
            g.put(0, 0, 256);
            fit("sort " + sort + ", 256: 0 as a byte", g, sort < 1 ? 5 : 0, sort < 1 ? 0 : NONE);
        }
    }

    private static void fitsLeft() {
        sentence(29, "any, too, when none is left");
        fit("a fourth, 1", withSheet(0, 0, 0, 1), 4, 0);
        fit("a fourth, 0", withSheet(0, 0, 0, 0), 4, 0);
        fit("a fourth, 5", withSheet(0, 0, 0, 5), 4, 0);
        fit("just as many as are left", withSheet(0, 0, 0), 4, 0);
        int[] forty = new int[40];
        fit("forty", withSheet(forty), 4, 0);
        GooseArms g = withSheet(0, 1, 5);
        g.say(3);
        fit("none is left", g, 100, 0);
        GooseArms last = withSheet(1, 0, 0);
        last.say(2);
        fit("the third alone: from 4 on", last, 96, 4);
        GooseArms nothing = Edge.courtOf("hearer;");
        nothing.sheet(0, 0, 40);
        fit("no SAYINGS at all", nothing, 100, 0);
    }

    private static void fitsRefused() {
        sentence(29, "BAD: no such SHEET, one, what; -11; NONE (what 1): none.");
        for (int none : new int[] {-1, 4, MIN, MAX}) {
            busy("fits(" + none + ", 0, 0)", g -> g.fits(none, 0, 0), BAD);
        }
        for (int what : new int[] {-1, 2, MIN, MAX}) {
            busy("fits(0, 0, " + what + ")", g -> g.fits(0, 0, what), BAD);
            busy("fits(3, 0, " + what + ")", g -> g.fits(3, 0, what), BAD);
        }
        busy("a missing one, what 0", g -> g.fits(2, 0, 0), -11);
        busy("a missing one, what 1", g -> g.fits(3, 0, 1), -11);
        busy("the last SHEET", g -> g.sheet(3, 0, 0) + g.fits(3, 0, 0) + g.sheet(3, -1, 0), 102);
    }

    private static void odd(GooseArms g, int n, int k, long above, long below) {
        due(n + ", " + k + " above the line", g.odds(n, k, 0), above);
        due(n + ", " + k + " below it", g.odds(n, k, 1), below);
    }

    private static void odds() {
        sentence(30, "ODDS by n (0 to 8), k (0 to n): a part of them. BAD.");
        GooseArms g = new GooseArms();
        odd(g, 0, 0, 1, 1);
        odd(g, 1, 0, 4, 5);
        odd(g, 1, 1, 1, 5);
        odd(g, 8, 0, 65536, 390625);
        odd(g, 8, 8, 1, 390625);
        for (int n : new int[] {-1, 9, MIN, MAX}) {
            busy("odds(" + n + ", 0, 0)", b -> b.odds(n, 0, 0), BAD);
        }
        busy("odds(9, 9, 0)", b -> b.odds(9, 9, 0), BAD);
        for (int n = 0; n <= 8; n++) {
            int days = n;
            busy("k = n and 1", b -> b.odds(days, days + 1, 0), BAD);
            busy("k = -1", b -> b.odds(days, -1, 1), BAD);
        }
        busy("k far off", b -> b.odds(8, MAX, 0), BAD);
        busy("k far below", b -> b.odds(8, MIN, 0), BAD);
        sentence(30, "0 above the line, 1 below it");
        for (int part : new int[] {-1, 2, MIN, MAX}) {
            busy("part " + part, b -> b.odds(3, 1, part), BAD);
        }
    }

    private static void oddsParts() {
        sentence(30, "without a common divisor, below above 0 (0 is 0 by 1)");
        GooseArms g = new GooseArms();
        g.set(3, 0);
        odd(g, 0, 0, 1, 1);
        odd(g, 1, 1, 0, 1);
        odd(g, 8, 1, 0, 1);
        odd(g, 8, 8, 0, 1);
        odd(g, 8, 0, 1, 1);
        g.set(3, 50);
        odd(g, 8, 4, 35, 128);
        odd(g, 2, 1, 1, 2);
        g.set(3, 1);
        odd(g, 1, 1, 1, 100);
        odd(g, 8, 8, 1, 10000000000000000L);
        odd(g, 8, 0, 9227446944279201L, 10000000000000000L);
        g.set(3, 99);
        odd(g, 8, 8, 9227446944279201L, 10000000000000000L);
        odd(g, 8, 0, 1, 10000000000000000L);
        // 8 * 99^7 by 100^8: the 8 is a divisor of 100^8
        odd(g, 8, 7, 93206534790699L, 1250000000000000L);
    }

    private static void hoped(GooseArms g, int n, long above, long below) {
        due(n + " days, above the line", g.hope(n, 0), above);
        due(n + " days, below it", g.hope(n, 1), below);
    }

    private static void hope() {
        sentence(31, "HOPE by n (0 to 99): a part of it. BAD.");
        GooseArms g = new GooseArms();
        hoped(g, 0, 0, 1);
        hoped(g, 1, 1, 5);
        hoped(g, 99, 99, 5);
        for (int n : new int[] {-1, 100, MIN, MAX}) {
            busy("hope(" + n + ", 0)", b -> b.hope(n, 0), BAD);
        }
        for (int part : new int[] {-1, 2, MIN, MAX}) {
            busy("hope(1, " + part + ")", b -> b.hope(1, part), BAD);
        }
        sentence(31, "without a common divisor, below above 0 (0 is 0 by 1)");
        hoped(g, 5, 1, 1);
        hoped(g, 10, 2, 1);
        g.set(3, 0);
        hoped(g, 0, 0, 1);
        hoped(g, 99, 0, 1);
        g.set(3, 99);
        hoped(g, 99, 9801, 100);
        hoped(g, 1, 99, 100);
        hoped(g, 0, 0, 1);
    }
}
