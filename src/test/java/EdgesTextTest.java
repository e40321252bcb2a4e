/** The edges of promises 2 and 3: THE TAPE, the TEXT and its FAULT. */
public final class EdgesTextTest {
    private static final int BAD = Edge.BAD, FULL = Edge.FULL, NONE = Edge.NONE;
    private static final int MIN = Edge.MIN, MAX = Edge.MAX;
    private static final String TWELVE = "say 0;".repeat(12);
    private static final String EIGHT = "liar;".repeat(8);

    public static void main(String[] args) {
        feedNumbers();
        feedLowestFirst();
        feedFull();
        courtEmpty();
        courtRefused();
        courtAlone();
        textSay();
        textHearers();
        textLaws();
        textOrder();
        textOptions();
        textNames();
        textOtherNames();
        textNumbers();
        textBlanks();
        textOtherBytes();
        textMore();
        textFirst();
        textTooMany();
        textLongest();
        Edge.everyPromise(2, 3);
        Edge.ends();
    }

    private static void sentence(int promise, String text) {
        Edge.sentence(promise, text);
    }

    private static void due(String what, long got, long want) {
        Edge.due(what, got, want);
    }

    /** The text is told to a court with something of everything, that must stay as it was but for THE TAPE. */
    private static void fault(String text, int place) {
        Edge.leaves("the fault of '" + text + "'", EdgesTextTest::busyWithoutTape, g -> Edge.told(g, text), -100 - place);
    }

    private static GooseArms busyWithoutTape() {
        GooseArms g = Edge.busy();
        g.court();
        g.again();
        Edge.sayings(g, 3);
        Edge.hearers(g, 2);
        g.say(1);
        g.prove(1, 2);
        g.act(0, 1, 5);
        return g;
    }

    private static void told(String text, int hearers) {
        due("'" + text + "'", Edge.told(new GooseArms(), text), hearers);
    }

    private static void feedNumbers() {
        sentence(2, "n bytes (1 to 8) come to THE TAPE, the lowest of eight first: how many it has. BAD");
        for (int n : new int[] {0, -1, 9, MIN, MAX}) {
            Edge.leaves("feed(.., " + n + ")", Edge::busy, g -> g.feed(0x2020202020202020L, n), BAD);
        }
        GooseArms g = new GooseArms();
        due("one", g.feed(0x20, 1), 1);
        due("eight", g.feed(0x2020202020202020L, 8), 9);
        due("one more", g.feed(0x20, 1), 10);
        due("many(5)", g.many(5), 10);
    }

    private static void feedLowestFirst() {
        sentence(2, "the lowest of eight first");
        GooseArms g = new GooseArms();
        // "cold 7;" and a byte 255: as one long it is below 0
        due("eight", g.feed(0xff3b3720646c6f63L, 8), 8);
        due("the eighth can't stand there", g.court(), -107);
        due("seven of eight", g.feed(0xff3b3720646c6f63L, 7), 7);
        due("without it", g.court(), 0);
        due("COLD", g.lawOf(0), 7);
        due("one of eight", g.feed(0xffffffffffffff20L, 1), 1);
        due("a blank alone", g.court(), 0);
        due("one of eight", g.feed(0x20202020202020ffL, 1), 1);
        due("a byte 255 alone", g.court(), -100);
    }

    private static GooseArms with(int bytes) {
        GooseArms g = Edge.busy();
        g.court();
        Edge.feedText(g, " ".repeat(bytes));
        return g;
    }

    private static void feedFull() {
        sentence(2, "FULL: more than 200.");
        due("just 200, by eight", with(192).feed(0x2020202020202020L, 8), 200);
        due("just 200, by one", with(199).feed(0x20, 1), 200);
        Edge.leaves("201 by one", () -> with(200), g -> g.feed(0x3b, 1), FULL);
        Edge.leaves("201 by two", () -> with(199), g -> g.feed(0x3b3b, 2), FULL);
        Edge.leaves("201 by eight", () -> with(193), g -> g.feed(0x3b3b3b3b3b3b3b3bL, 8), FULL);
        Edge.leaves("208 by eight", () -> with(200), g -> g.feed(0x3b3b3b3b3b3b3b3bL, 8), FULL);
        sentence(2, "of several the first named");
        Edge.leaves("nine when full", () -> with(200), g -> g.feed(0, 9), BAD);
        Edge.leaves("none when full", () -> with(200), g -> g.feed(0, 0), BAD);
        sentence(2, "200 at most; court() uses it up.");
        GooseArms g = with(200);
        due("FULL", g.feed(0x20, 1), FULL);
        due("court()", g.court(), 0);
        due("from 0 again", g.feed(0x20, 1), 1);
    }

    private static void courtEmpty() {
        sentence(3, "THE TAPE becomes all: how many HEARERS");
        due("no bytes, nothing there", new GooseArms().court(), 0);
        GooseArms g = Edge.twelveSayings();
        g.say(3);
        due("no bytes, something there", g.court(), 0);
        due("no SAYINGS", g.state(1), 0);
        due("SAID", g.state(0), 0);
        due("no HEARERS", g.many(0), 0);
        due("blanks alone", Edge.told(g, "   "), 0);
        due("LAWS alone", Edge.told(g, "cold 1;"), 0);
        due("SAYINGS alone", Edge.told(g, "say 1;"), 0);
        due("eight", Edge.told(g, EIGHT), 8);
    }

    private static void courtRefused() {
        sentence(3, "such a call changes nothing (but that THE TAPE is used up by court())");
        GooseArms g = Edge.busy();
        due("the fault: jud at 15", g.court(), -115);
        due("no bytes", g.many(5), 0);
        due("ROWS stay", g.many(4), 2);
        due("a ROW stays", g.row(1, 1), 60);
        due("HEARERS stay", g.many(0), 3);
        due("SAYINGS stay", g.state(1), 4);
        due("SAID stays", g.state(0), 1);
        due("ARMS stay", g.of(0, 3), 1);
        due("LAWS stay", g.lawOf(0), 1);
        due("z stays", g.seed(12345), 12345);
        due("THE TRACE stays", g.many(6), 3);
        // what was told before the fault is not there
        Edge.leaves("a fault behind much", EdgesTextTest::busyWithoutTape, b -> Edge.told(b, "say 7 heat 0;cold 9;elder tender 9;x"), -135);
    }

    private static void courtAlone() {
        sentence(3, "It is all by it alone (what it doesn't tell is as at first); z stays.");
        GooseArms g = Edge.busy();
        g.set(1, 9);
        g.set(2, 9);
        due("one that tells little", Edge.told(g, "ge;"), 2);
        int[] laws = {2, 3, 1, 20};
        for (int law = 0; law < 4; law++) {
            due("LAW " + law, g.lawOf(law), laws[law]);
        }
        due("SAID", g.state(0), 0);
        due("SAYINGS", g.state(1), 0);
        due("ARMS", g.state(4), 0);
        due("z", g.seed(3), 12345);
        due("one that tells all LAWS", Edge.told(g, "cold 9;oath 8;wear 7;draught 6;"), 0);
        due("one with a fault", Edge.told(g, "cold 8;oath 7;wear 6;draught 5;x"), -131);
        due("what was told before", g.lawOf(0) + g.lawOf(1) + g.lawOf(2) + g.lawOf(3), 30);
        due("one that tells none", Edge.told(g, "say 1;judge;judge;"), 2);
        for (int law = 0; law < 4; law++) {
            due("LAW " + law, g.lawOf(law), laws[law]);
        }
        due("one SAYING", g.state(1), 1);
        g.court();
        sentence(3, "There are no ROWS then.");
        due("ROWS", g.many(4), 0);
        due("a ROW", g.row(0, 0), -9);
        due("a ROW to alter", g.alterRow(0, 0, 1), -9);
        sentence(3, "THE TAPE becomes all");
        due("SHEETS stay", g.item(0, 0, 0), 1);
        due("a SHELF with a row stays", g.taken(1, 10), 4);
        Edge.told(g, "judge;judge;");
        due("a SHELF with one of the HEARERS stays", g.taken(0, 0), 1);
        due("THE TRACE stays", g.many(6), 3);
        due("what is kept stays", g.again(), 1);
        due("z of what is kept", g.seed(0), -5);
    }

    private static GooseArms one(String text) {
        return Edge.courtOf(text);
    }

    private static void textSay() {
        sentence(3, "say: one more SAYING of a TOPIC; HEAT (5 without); it is not SO without so.");
        GooseArms g = one("say 0;say 7 heat 0;say 3 heat 9 so;say 4 so;");
        int[][] want = {{0, 5, 0}, {7, 0, 0}, {3, 9, 1}, {4, 5, 1}};
        for (int i = 0; i < 4; i++) {
            for (int what = 0; what < 3; what++) {
                due("SAYING " + i + ", " + what, g.sayingOf(i, what), want[i][what]);
            }
        }
        fault("say 8;", 4);
        fault("say 0 heat 10;", 11);
        fault("say 999;", 4);
        fault("say 0 heat 256;", 11);
    }

    private static void textHearers() {
        sentence(3, "KIND (hearer | judge | advocate | elder | liar | horse): one more; TENDER (3 without), MIND (0 to 255, as a set; 255 without).");
        GooseArms g = one("hearer;judge tender 0;advocate tender 99;elder minds 0;liar minds 255;horse tender 50 minds 128;");
        int[][] want = {{0, 3, 255}, {1, 0, 255}, {2, 99, 255}, {3, 3, 0}, {4, 3, 255}, {5, 50, 128}};
        for (int i = 0; i < 6; i++) {
            for (int what = 0; what < 3; what++) {
                due("one " + i + ", " + what, g.of(i, what), want[i][what]);
            }
            due("ARM of " + i, g.of(i, 3), 0);
        }
        fault("hearer tender 100;", 14);
        fault("hearer minds 256;", 13);
        fault("horse tender 3 minds 999;", 21);
    }

    private static void textLaws() {
        sentence(3, "cold N ; | oath N ; | wear N ; | draught N ;");
        String[] names = {"cold", "oath", "wear", "draught"};
        int[] most = {9, 9, 9, 99};
        for (int law = 0; law < 4; law++) {
            due("the least", one(names[law] + " 0;").lawOf(law), 0);
            due("the greatest", one(names[law] + " " + most[law] + ";").lawOf(law), most[law]);
            fault(names[law] + " " + (most[law] + 1) + ";", names[law].length() + 1);
            fault(names[law] + " 255;", names[law].length() + 1);
        }
        due("twice: the later", one("draught 1;draught 98;").lawOf(3), 98);
    }

    private static void textOrder() {
        sentence(3, "TEXT: { say N [ heat N ] [ so ] ;");
        fault("say 1 so heat 3;", 9);
        fault("say heat 3;", 4);
        fault("say so;", 4);
        fault("heat 3;", 0);
        fault("so;", 0);
        fault("say 1 heat so;", 11);
        fault("say 1 tender 3;", 6);
        fault("say 1 say 2;", 6);
        fault("say;", 3);
        fault("say 1 heat;", 10);
        sentence(3, "| KIND [ tender N ] [ minds N ] ;");
        fault("hearer minds 1 tender 1;", 15);
        fault("hearer heat 3;", 7);
        fault("hearer so;", 7);
        fault("hearer 3;", 7);
        fault("hearer tender;", 13);
        fault("hearer minds;", 12);
        fault("hearer tender minds 3;", 14);
        fault("tender 3;", 0);
        fault("minds 3;", 0);
        sentence(3, "| cold N ; | oath N ; | wear N ; | draught N ; }");
        fault("cold;", 4);
        fault("cold 3 4;", 7);
        fault("cold 3 cold 4;", 7);
        fault("cold so;", 5);
        fault(";", 0);
        fault("cold 3;;", 7);
        fault("3;", 0);
    }

    private static void textOptions() {
        sentence(3, "say N [ heat N ] [ so ] ;");
        fault("say 1 heat 3 heat 3;", 13);
        fault("say 1 so so;", 9);
        fault("say 1 2;", 6);
        fault("say 1 heat 3 4;", 13);
        fault("say 1 so 4;", 9);
        sentence(3, "KIND [ tender N ] [ minds N ] ;");
        fault("judge tender 1 tender 1;", 15);
        fault("judge minds 1 minds 1;", 14);
        fault("judge tender 1 2;", 15);
        fault("judge minds 1 2;", 14);
    }

    private static void textNames() {
        sentence(3, "NAMES are rows of letters a to z");
        fault("Say 1;", 0);
        fault("SAY 1;", 0);
        fault("`say 1;", 0);
        fault("{say 1;", 0);
        fault("say`1;", 3);
        fault("say{1;", 3);
        fault("say@1;", 3);
        fault("say[1;", 3);
        sentence(3, "both as long as they go");
        fault("sa 1;", 0);
        fault("says 1;", 0);
        fault("sayso 1;", 0);
        fault("horsehorse;", 0);
        fault("hearertender 3;", 0);
        fault("sayasay 1;", 0);
        fault("say 1 heats 3;", 6);
        fault("say 1 hea 3;", 6);
        fault("say 1 s;", 6);
        fault("say 1 soso;", 6);
        fault("judge tenders 1;", 6);
        fault("judge mind 1;", 6);
        fault("colds 1;", 0);
        fault("zzz;", 0);
        fault("a;", 0);
        for (String letter : new String[] {"a", "z"}) {
            fault("say" + letter + " 1;", 0);
            fault(letter + "say 1;", 0);
            fault("say 1 heat" + letter + " 3;", 6);
            fault("say 1 so" + letter + ";", 6);
            fault("judge minds" + letter + " 3;", 6);
        }
    }

    private static void textOtherNames() {
        sentence(3, "the first NAME, NUMBER or other byte that can't stand there");
        String[] names = {"say", "hearer", "judge", "advocate", "elder", "liar", "horse", "cold", "oath", "wear", "draught"};
        for (String name : names) {
            for (int i = 0; i < name.length(); i++) {
                fault(other(name, i) + " 1;", 0);
            }
            fault(name.substring(1) + " 1;", 0);
            fault(name.substring(0, name.length() - 1) + " 1;", 0);
        }
        for (String name : new String[] {"heat", "so"}) {
            for (int i = 0; i < name.length(); i++) {
                fault("say 1 " + other(name, i) + " 1;", 6);
            }
        }
        for (String name : new String[] {"tender", "minds"}) {
            for (int i = 0; i < name.length(); i++) {
                fault("judge " + other(name, i) + " 1;", 6);
            }
        }
    }

    /** The name with another letter at a place. */
    private static String other(String name, int place) {
        return name.substring(0, place) + "q" + name.substring(place + 1);
    }

    private static void textNumbers() {
        sentence(3, "NUMBERS rows of digits (1 to 3), both as long as they go");
        due("one digit", one("draught 7;").lawOf(3), 7);
        due("two digits", one("draught 07;").lawOf(3), 7);
        due("three digits", one("draught 007;").lawOf(3), 7);
        due("three digits", one("draught 099;").lawOf(3), 99);
        due("three digits of 0", one("draught 000;").lawOf(3), 0);
        due("three digits", one("horse minds 255;").of(0, 2), 255);
        sentence(3, "is not as told (a NUMBER out of range, of more digits");
        fault("draught 0007;", 8);
        fault("draught 0000;", 8);
        fault("draught 100;", 8);
        fault("draught 00000000000000000007;", 8);
        fault("draught 4294967296;", 8);
        fault("draught 18446744073709551617;", 8);
        fault("say 1 heat 0005;", 11);
        fault("horse minds 0255;", 12);
        fault("say 12;", 4);
        sentence(3, "NUMBERS rows of digits");
        fault("draught /;", 8);
        fault("draught :;", 8);
        fault("draught 1/;", 9);
        fault("draught 1:;", 9);
        fault("draught -1;", 8);
        fault("draught +1;", 8);
        fault("draught 1.5;", 9);
        due("the least digit and the greatest", one("draught 90;").lawOf(3), 90);
    }

    private static void textBlanks() {
        sentence(3, "blanks (32) part them, and stand elsewhere as one likes.");
        told("  say   1   heat   2   so   ;   judge   tender   4   minds   5   ;   ", 1);
        told("say 1;judge;", 1);
        told("say1heat2so;judge tender4minds5;cold3;", 1);
        fault("s ay 1;", 0);
        due("a NUMBER parted is two", Edge.told(new GooseArms(), "draught 1 2;"), -110);
        fault("say 1heat 2s o;", 11);
        fault("say\t1;", 3);
        fault("say\n1;", 3);
        fault("say" + (char) 160 + "1;", 3);
        fault("say" + (char) 31 + "1;", 3);
        fault("say!1;", 3);
    }

    private static void textOtherBytes() {
        sentence(3, "the first byte of the first NAME, NUMBER or other byte that can't stand there");
        for (int other : new int[] {0, 9, 10, 31, 33, 47, 58, 60, 64, 91, 96, 123, 127, 128, 160, 255}) {
            String sign = String.valueOf((char) other);
            fault(sign, 0);
            fault("say 1" + sign + ";", 5);
            fault("say 1;" + sign, 6);
            fault("say" + sign, 3);
        }
        // signs whose numbers are those of letters, digits, blank and stop but for the highest bit
        for (char sign : "say 1;".toCharArray()) {
            fault("say 1;" + (char) (sign + 128), 6);
        }
    }

    private static void textMore() {
        sentence(3, "or the end (how many bytes there are), if more must come.");
        String[] parts = {"say", "say 1", "say 1 heat", "say 1 heat 2", "say 1 heat 2 so", "say 1 so", "judge", "judge tender", "judge tender 4",
            "judge tender 4 minds", "judge tender 4 minds 5", "judge minds 5", "judge minds", "cold", "cold 3", "draught", "draught 20"};
        for (String part : parts) {
            fault(part, part.length());
            fault(part + "  ", part.length() + 2);
            fault("cold 3;" + part, part.length() + 7);
        }
        told("", 0);
        told("cold 3;", 0);
        sentence(3, "is not as told");
        fault("sa", 0);
        fault("say 8", 4);
        fault("say 1 he", 6);
    }

    private static void textFirst() {
        sentence(3, "FAULT: the place (from 0) of the first byte of the first");
        fault("x", 0);
        fault(" x", 1);
        fault("say 9 heat 99 x", 4);
        fault("say 1 heat 99;x", 11);
        fault("say 1;say 2;say 9;say 9;", 16);
        fault("hearer tender 100 minds 256;", 14);
        fault("hearer tender 99 minds 256;", 23);
        fault("cold 10;say 9;", 5);
        fault("say 9", 4);
    }

    private static void textTooMany() {
        sentence(3, "the NAME of a ninth one of HEARERS, say of a thirteenth SAYING");
        due("twelve", one(TWELVE).state(1), 12);
        due("eight", one(EIGHT).many(0), 8);
        told(TWELVE + EIGHT, 8);
        told(EIGHT + TWELVE + "cold 1;", 8);
        fault(TWELVE + "say 0;", 72);
        fault(TWELVE + " say", 73);
        fault(TWELVE + "say 9;", 72);
        fault(EIGHT + "horse;", 40);
        fault(EIGHT + " hearer", 41);
        fault(EIGHT + "judge tender 100;", 40);
        fault(TWELVE + EIGHT + "liar;", 112);
        fault(EIGHT + TWELVE + "say 0;", 112);
        fault(EIGHT + "says;", 40);
        // those of the court that is there don't count
        GooseArms full = Edge.eightHearers();
        due("eight others", Edge.told(full, EIGHT + TWELVE), 8);
        due("and once more", Edge.told(full, EIGHT + TWELVE), 8);
    }

    private static void textLongest() {
        sentence(3, "THE TAPE takes bytes, 200 at most");
        String law = "draught 99;";
        told(" ".repeat(200 - law.length()) + law, 0);
        due("the last bytes count", one(" ".repeat(200 - law.length()) + law).lawOf(3), 99);
        fault(" ".repeat(200 - law.length()) + "draught 99:", 199);
        fault(" ".repeat(200 - 3) + "say", 200);
        fault("say" + " ".repeat(197), 200);
        fault("a".repeat(200), 0);
        fault(";".repeat(200), 0);
        fault("1".repeat(200), 0);
        fault("say " + "0".repeat(196), 4);
        told(" ".repeat(200), 0);
        // 18 texts of 11 bytes are 198
        due("as many laws as go", one(law.repeat(18)).lawOf(3), 99);
        due("nothing is kept by it", one(law.repeat(18)).again(), NONE);
    }
}
