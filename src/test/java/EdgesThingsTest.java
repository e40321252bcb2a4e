/** The edges of promises 32 to 46: ROWS, SHEETS, SHELVES, ACTS, how many, what is kept. */
public final class EdgesThingsTest {
    private static final int BAD = Edge.BAD, NONE = Edge.NONE;
    private static final int MIN = Edge.MIN, MAX = Edge.MAX;
    private static final int SHAKES = 0, READS = 1, PARTS = 2, SWEARS = 3;
    private static final int HEARER = 0, JUDGE = 1, ADVOCATE = 2, ELDER = 3, LIAR = 4, HORSE = 5;
    private static final String OF_SEVERAL = "of several the first named";
    private static final int[] NOBODY = {-1, 3, 8, MIN, MAX};
    private static final int[] NO_PLACE = {-1, 4, MIN, MAX};

    public static void main(String[] args) {
        prove();
        proveLeft();
        proveTries();
        asItIsAlready();
        row();
        alterRow();
        judge();
        judgeLeft();
        mindsNumbers();
        mindsPlaces();
        mindsHeld();
        sheet();
        sheetMissing();
        putPlaces();
        putNarrowed();
        item();
        shelf();
        shelfHolds();
        takenKinds();
        takenRows();
        takenRefused();
        actNone();
        actWraps();
        actWrapsInSuper();
        actEach();
        actCut();
        actByZero();
        actNow();
        trace();
        traceLatest();
        many();
        manyFull();
        keep();
        again();
        againLeaves();
        Edge.everyPromise(32, 46);
        Edge.ends();
    }

    private static void sentence(int promise, String text) {
        Edge.sentence(promise, text);
    }

    private static void due(String what, long got, long want) {
        Edge.due(what, got, want);
    }

    private static void busy(String what, Edge.Call call, long want) {
        Edge.leaves(what, Edge::busy, call, want);
    }

    // ---- ROWS ----

    private static GooseArms proved(int left, int n) {
        GooseArms g = Edge.courtOf("say 0 heat 9;".repeat(left) + "hearer tender 50;horse minds 0;");
        due(left + " left, " + n + " asked", g.prove(0, n), Math.min(left, n));
        return g;
    }

    private static void prove() {
        sentence(32, "ROWS of one by n SAYINGS (1 to 10; as many as are left): how many. BAD.");
        for (int n : new int[] {0, -1, 11, MIN, MAX}) {
            busy("prove(0, " + n + ")", g -> g.prove(0, n), BAD);
        }
        for (int one : NOBODY) {
            busy("prove(" + one + ", 1)", g -> g.prove(one, 1), BAD);
        }
        GooseArms ten = proved(12, 10);
        due("ten ROWS", ten.many(4), 10);
        due("ARM of the tenth", ten.row(9, 0), 1023);
        due("TENDER of the tenth", ten.row(9, 1), 40);
        due("raised by the tenth", ten.row(9, 2), 1);
        due("no eleventh", ten.row(10, 0), -9);
        due("nothing was said", ten.state(0), 0);
        GooseArms one = proved(12, 1);
        due("one ROW", one.many(4), 1);
        due("its ARM", one.row(0, 0), 1);
        due("no second", one.row(1, 0), -9);
    }

    private static void proveLeft() {
        sentence(32, "n is as many as are left at most.");
        due("just as many", proved(3, 3).many(4), 3);
        due("one too many", proved(3, 4).many(4), 3);
        GooseArms g = proved(3, 10);
        g.say(2);
        due("one is left", g.prove(0, 10), 1);
        due("its ARM", g.row(0, 0), 7);
        due("the others are gone", g.row(1, 0), -9);
        g.say(1);
        due("none is left", g.prove(0, 1), 0);
        due("no ROWS", g.many(4), 0);
        due("no first ROW", g.row(0, 0), -9);
        due("no SAYINGS at all", Edge.courtOf("hearer;").prove(0, 10), 0);
        sentence(32, OF_SEVERAL);
        Edge.leaves("11 when none is left", Edge::busyAllSaid, b -> b.prove(0, 11), BAD);
    }

    private static GooseArms busyProved() {
        GooseArms g = Edge.busy();
        g.prove(1, 3);
        return g;
    }

    private static void proveTries() {
        sentence(32, "n more SAYINGS, tried");
        Edge.leaves("the same ROWS again", EdgesThingsTest::busyProved, g -> g.prove(1, 3), 3);
        Edge.leaves("those of all that are left", EdgesThingsTest::busyProved, g -> g.prove(1, 10), 3);
    }

    private static void row() {
        sentence(33, "-9: there is none such, another what.");
        // 5 and 5 of 7; 5, 9 and 3 of 9; 5 and more of 4
        busy("the last ROW, the last what", g -> g.row(1, 2), 3);
        for (int i : new int[] {-1, 2, 9, 10, MIN, MAX}) {
            busy("row(" + i + ", 0)", g -> g.row(i, 0), -9);
        }
        for (int what : new int[] {-1, 3, MIN, MAX}) {
            busy("row(0, " + what + ")", g -> g.row(0, what), -9);
            busy("row(1, " + what + ")", g -> g.row(1, what), -9);
        }
        due("no ROWS at all", new GooseArms().row(0, 0), -9);
        sentence(33, "what = 0 its ARM, 1 TENDER, 2 how many the SAYING raised.");
        GooseArms all = Edge.courtOf("say 0 heat 9;say 0 heat 0;" + "hearer tender 1;".repeat(8));
        all.prove(7, 10);
        due("raised by the first", all.row(0, 2), 8);
        due("raised by the second", all.row(1, 2), 0);
        due("TENDER held to 0", all.row(1, 1), 0);
    }

    private static void alterRow() {
        sentence(34, "It becomes v: what it was. -9 likewise.");
        GooseArms g = proved(12, 10);
        int[] was = {1023, 40, 1};
        for (int what = 0; what < 3; what++) {
            due("the last ROW, " + what, g.alterRow(9, what, MIN), was[what]);
            due("any int", g.alterRow(9, what, MAX), MIN);
            due("any int", g.alterRow(9, what, -9), MAX);
            due("as low as a refusal", g.row(9, what), -9);
        }
        due("the first ROW", g.alterRow(0, 0, 7), 1);
        for (int i : new int[] {-1, 2, 9, 10, MIN, MAX}) {
            busy("alterRow(" + i + ", 0, 5)", b -> b.alterRow(i, 0, 5), -9);
        }
        for (int what : new int[] {-1, 3, MIN, MAX}) {
            busy("alterRow(0, " + what + ", 5)", b -> b.alterRow(0, what, 5), -9);
            busy("alterRow(1, " + what + ", 5)", b -> b.alterRow(1, what, 5), -9);
        }
        due("no ROWS at all", new GooseArms().alterRow(0, 0, 5), -9);
    }

    private static void judge() {
        sentence(35, "0 all is right (also if there are none); else the first ROW that isn't, and 1 more. BAD.");
        for (int one : NOBODY) {
            busy("judge(" + one + ")", g -> g.judge(one), BAD);
        }
        due("there are none", Edge.courtOf("say 0;hearer;").judge(0), 0);
        due("there are none, nobody", Edge.courtOf("say 0;hearer;").judge(1), BAD);
        busy("the second", g -> g.judge(0), 2);
        GooseArms g = proved(12, 10);
        due("all ten", g.judge(0), 0);
        for (int what = 0; what < 3; what++) {
            int is = g.alterRow(9, what, -1);
            due("the last", g.judge(0), 10);
            g.alterRow(9, what, is + 1);
            due("the last, 1 more", g.judge(0), 10);
            int first = g.alterRow(0, what, -1);
            due("the first of two", g.judge(0), 1);
            g.alterRow(0, what, first);
            g.alterRow(9, what, is);
            due("all ten again", g.judge(0), 0);
        }
        due("those of the other", g.judge(1), 1);
    }

    private static void judgeLeft() {
        sentence(35, "(a ROW for a SAYING that isn't left is not right)");
        GooseArms g = Edge.courtOf("say 0 heat 0;".repeat(10) + "hearer minds 0;");
        g.prove(0, 10);
        due("all ten are left", g.judge(0), 0);
        g.say(1);
        due("nine are left", g.judge(0), 10);
        g.say(8);
        due("one is left", g.judge(0), 2);
        g.say(1);
        due("none is left", g.judge(0), 1);
        g.saying(0, 0, 0);
        due("one came", g.judge(0), 2);
        g.prove(0, 1);
        g.say(1);
        g.prove(0, 1);
        due("none is left, and there are none", g.judge(0), 0);
        sentence(35, "THE READER takes ROWS as those of one, from how it is now");
        GooseArms more = proved(3, 2);
        due("one more is left than ROWS", more.judge(0), 0);
        more.say(1);
        due("from the second on", more.judge(0), 1);
        more.anew();
        more.tender(0, 50);
        due("as it was", more.judge(0), 0);
    }

    private static void asItIsAlready() {
        sentence(34, "It becomes v: what it was.");
        busy("a ROW's number as it is", g -> g.alterRow(1, 1, 60), 60);
        sentence(36, "n numbers (0 to 8) of a SHEET taken for bytes");
        busy("no numbers", g -> g.minds(0, 4, 2, 0), 0);
        sentence(37, "A SHEET becomes a row of n of a sort, all 0, or missing");
        busy("missing as it is", g -> g.sheet(3, -1, 0), 1);
        sentence(38, "Item i becomes v");
        busy("an item as it is", g -> g.put(0, 0, 1), 1);
        busy("a long as it is", g -> g.put(1, 1, -9), 1);
        sentence(40, "A SHELF holds one of the HEARERS (what 0, its number n), the row of SHEET n (1; nothing, if missing), nothing (2): 1.");
        busy("one of the HEARERS as it is", g -> g.shelf(0, 0, 1), 1);
        busy("a row as it is", g -> g.shelf(1, 1, 0), 1);
        busy("nothing as it is", g -> g.shelf(3, 2, 0), 1);
        busy("nothing as it is, by a missing SHEET", g -> g.shelf(3, 1, 3), 1);
        sentence(42, "An ACT (0 to 3) of the thing on a SHELF, with x.");
        // the judge is as TENDER as 10, its number 1: twice (26 less 10)
        busy("the same ACT again", g -> g.act(0, READS, 5), 32);
        sentence(45, "is kept: 1.");
        Edge.leaves("kept as it is", EdgesThingsTest::keptAsItIs, GooseArms::keep, 1);
    }

    // ---- SHEETS ----

    private static void mindsNumbers() {
        sentence(36, "BAD: no such SHEET, one, n, or n goes beyond the last one; -11; -13; -12");
        for (int none : NO_PLACE) {
            busy("minds(" + none + ", 0, 0, 1)", g -> g.minds(none, 0, 0, 1), BAD);
        }
        for (int one : NOBODY) {
            busy("minds(0, 0, " + one + ", 0)", g -> g.minds(0, 0, one, 0), BAD);
            busy("minds(0, 0, " + one + ", 1)", g -> g.minds(0, 0, one, 1), BAD);
        }
        for (int n : new int[] {-1, 9, MIN, MAX}) {
            busy("minds(0, 0, 0, " + n + ")", g -> g.minds(0, 0, 0, n), BAD);
            Edge.leaves("of eight " + n, EdgesThingsTest::eightWithSheet, g -> g.minds(0, 0, 0, n), BAD);
        }
        busy("three of three", g -> g.minds(0, 0, 0, 3) * 10 + restored(g), 30);
        busy("four of three", g -> g.minds(0, 0, 0, 4), BAD);
        busy("two from the last on", g -> g.minds(0, 0, 2, 2), BAD);
        busy("one from the last on", g -> g.minds(0, 0, 2, 1) * 10 + restored(g), 10);
        due("eight of eight", eightWithSheet().minds(0, 0, 0, 8), 8);
        sentence(36, OF_SEVERAL);
        for (int n : new int[] {-1, 9}) {
            busy("no such n, missing", g -> g.minds(2, 0, 0, n), BAD);
            busy("no such n, longs", g -> g.minds(1, 0, 0, n), BAD);
            busy("no such n, outside", g -> g.minds(0, 5, 0, n), BAD);
        }
        busy("nobody, missing", g -> g.minds(2, 0, 3, 1), BAD);
        busy("beyond the last one, missing", g -> g.minds(2, 0, 2, 2), BAD);
        busy("missing, outside", g -> g.minds(3, -1, 0, 1), -11);
        busy("missing, none asked", g -> g.minds(3, 0, 0, 0), -11);
        busy("longs, outside", g -> g.minds(1, 9, 0, 1), -13);
        busy("longs, none asked", g -> g.minds(1, 0, 0, 0), -13);
        busy("beyond the last one, outside", g -> g.minds(0, 9, 2, 2), BAD);
        sentence(36, "a SHEET taken for bytes");
        for (int sort = 1; sort < 4; sort++) {
            int other = sort;
            GooseArms g = Edge.busy();
            g.sheet(2, other, 8);
            due("sort " + sort, g.minds(2, 0, 0, 1), -13);
        }
    }

    /** TENDER of all three becomes what it was in a busy court; 0. */
    private static int restored(GooseArms g) {
        GooseArms as = Edge.busy();
        for (int i = 0; i < 3; i++) {
            g.tender(i, as.of(i, 1));
        }
        return 0;
    }

    private static GooseArms eightWithSheet() {
        GooseArms g = Edge.eightHearers();
        g.sheet(0, 0, 40);
        return g;
    }

    private static void mindsPlaces() {
        sentence(36, "-12: i is not 0 to how many items there are (also for n 0), or there are not so many.");
        busy("none, from the first on", g -> g.minds(0, 0, 0, 0), 0);
        busy("none, from the end on", g -> g.minds(0, 4, 0, 0), 0);
        busy("none, behind the end", g -> g.minds(0, 5, 0, 0), -12);
        busy("none, before the first", g -> g.minds(0, -1, 0, 0), -12);
        for (int far : new int[] {MIN, MAX}) {
            busy("none, far off", g -> g.minds(0, far, 0, 0), -12);
            busy("three, far off", g -> g.minds(0, far, 0, 3), -12);
        }
        busy("the last three", g -> g.minds(0, 1, 0, 3) * 10 + restored(g), 30);
        busy("one too far", g -> g.minds(0, 2, 0, 3), -12);
        busy("the last one", g -> g.minds(0, 3, 0, 1) * 10 + restored(g), 10);
        busy("one from the end on", g -> g.minds(0, 4, 0, 1), -12);
        busy("one from before the first", g -> g.minds(0, -1, 0, 2), -12);
        GooseArms empty = Edge.busy();
        empty.sheet(2, 0, 0);
        due("none of no items", empty.minds(2, 0, 0, 0), 0);
        due("none of no items, behind", empty.minds(2, 1, 0, 0), -12);
        due("one of no items", empty.minds(2, 0, 0, 1), -12);
        GooseArms forty = eightWithSheet();
        forty.put(0, 39, 77);
        due("the last eight of forty", forty.minds(0, 32, 0, 8), 8);
        due("the last of them", forty.of(7, 1), 77);
        due("one too far", forty.minds(0, 33, 0, 8), -12);
    }

    private static void mindsHeld() {
        sentence(36, "become TENDER of HEARERS from one on (held to 0 to 99): n.");
        int[] bytes = {-128, -1, 0, 1, 98, 99, 100, 127};
        int[] want = {0, 0, 0, 1, 98, 99, 99, 99};
        GooseArms g = eightWithSheet();
        for (int i = 0; i < 8; i++) {
            g.put(0, i, bytes[i]);
        }
        due("all eight", g.minds(0, 0, 0, 8), 8);
        for (int i = 0; i < 8; i++) {
            due("TENDER by " + bytes[i], g.of(i, 1), want[i]);
        }
        due("one from the fourth on, by the fifth", g.minds(0, 4, 3, 1), 1);
        due("the third stays", g.of(2, 1), 0);
        due("the fourth", g.of(3, 1), 98);
        due("the fifth stays", g.of(4, 1), 98);
        g.put(0, 0, 255);
        due("by a byte of 255", g.minds(0, 0, 7, 1), 1);
        due("that is -1", g.of(7, 1), 0);
    }

    private static void sheet() {
        sentence(37, "A SHEET becomes a row of n of a sort, all 0");
        for (int i = 0; i < 4; i++) {
            int at = i;
            GooseArms g = new GooseArms();
            due("40 of sort " + at, g.sheet(at, at, 40), 1);
            due("the last item", g.put(at, 39, -1), 1);
            due("no 41st", g.put(at, 40, -1), -12);
            due("the first item", g.put(at, 0, -1), 1);
            due("anew", g.sheet(at, at, 40), 1);
            due("all 0, the first", g.item(at, at, 0), 0);
            due("all 0, the last", g.item(at, at, 39), 0);
            due("none", g.sheet(at, at, 0), 1);
            due("no item", g.item(at, at, 0), -12);
            due("one", g.sheet(at, at, 1), 1);
            due("its item", g.item(at, at, 0), 0);
            due("no second", g.item(at, at, 1), -12);
        }
        sentence(37, "BAD: no such SHEET, sort, n above 40; -14.");
        for (int none : NO_PLACE) {
            busy("sheet(" + none + ", 0, 1)", g -> g.sheet(none, 0, 1), BAD);
            busy("sheet(" + none + ", -1, 1)", g -> g.sheet(none, -1, 1), BAD);
            busy("size below 0 of none", g -> g.sheet(none, 0, -1), BAD);
        }
        for (int sort : new int[] {-2, 4, MIN, MAX}) {
            busy("sheet(0, " + sort + ", 1)", g -> g.sheet(0, sort, 1), BAD);
            busy("size below 0 of no sort", g -> g.sheet(0, sort, -1), BAD);
        }
        for (int sort = 0; sort < 4; sort++) {
            int s = sort;
            busy("41 of " + sort, g -> g.sheet(0, s, 41), BAD);
            busy("far too many of " + sort, g -> g.sheet(0, s, MAX), BAD);
            busy("below 0 of " + sort, g -> g.sheet(0, s, -1), -14);
            busy("far below 0 of " + sort, g -> g.sheet(0, s, MIN), -14);
        }
    }

    private static void sheetMissing() {
        sentence(37, "or missing (sort -1; n counts nothing then): 1.");
        for (int n : new int[] {0, 1, 40, 41, -1, MIN, MAX}) {
            GooseArms g = Edge.busy();
            due("missing by " + n, g.sheet(0, -1, n), 1);
            due("it is", g.item(0, 0, 0), -11);
            due("the other isn't", g.item(1, 3, 1), -9);
            busy("that was missing, by " + n, b -> b.sheet(2, -1, n), 1);
        }
    }

    private static void putPlaces() {
        sentence(38, "BAD: no such SHEET; -11; -12.");
        for (int none : NO_PLACE) {
            busy("put(" + none + ", 0, 5)", g -> g.put(none, 0, 5), BAD);
            busy("put(0, " + none + ", 5)", g -> g.put(0, none, 5), -12);
            busy("put(2, " + none + ", 5)", g -> g.put(2, none, 5), -11);
        }
        busy("missing", g -> g.put(3, 0, 5), -11);
        busy("one too far", g -> g.put(1, 2, 5), -12);
        GooseArms g = Edge.busy();
        due("the first", g.put(0, 0, 5), 1);
        due("the last", g.put(0, 3, 6), 1);
        due("the first stands", g.item(0, 0, 0), 5);
        due("the second stays", g.item(0, 0, 1), -1);
        due("the last stands", g.item(0, 0, 3), 6);
        g.sheet(2, 2, 0);
        due("no items", g.put(2, 0, 5), -12);
    }

    private static void narrowed(GooseArms g, int sort, int v, int want) {
        g.sheet(0, sort, 1);
        due("put " + v + " of sort " + sort, g.put(0, 0, v), 1);
        due(v + " of sort " + sort, g.item(0, sort, 0), want);
    }

    private static void putNarrowed() {
        sentence(38, "Item i becomes v, narrowed to its sort: 1.");
        GooseArms g = new GooseArms();
        int[] bytes = {127, 128, -128, -129, 255, 256, 511, MAX, MIN};
        int[] asBytes = {127, -128, -128, 127, -1, 0, -1, -1, 0};
        for (int i = 0; i < bytes.length; i++) {
            narrowed(g, 0, bytes[i], asBytes[i]);
        }
        int[] shorts = {32767, 32768, -32768, -32769, 65535, 65536, 131071, MAX, MIN};
        int[] asShorts = {32767, -32768, -32768, 32767, -1, 0, -1, -1, 0};
        for (int i = 0; i < shorts.length; i++) {
            narrowed(g, 1, shorts[i], asShorts[i]);
        }
        for (int v : new int[] {MIN, MAX, -1, 0, 65536, -11, -12, -13}) {
            narrowed(g, 2, v, v);
            narrowed(g, 3, v, v);
        }
    }

    private static void item() {
        sentence(39, "Item i, taken for a sort (0 to 3; of longs the lowest 32 bits). BAD: no such SHEET, sort; -11; -13; -12.");
        for (int none : NO_PLACE) {
            busy("item(" + none + ", 0, 0)", g -> g.item(none, 0, 0), BAD);
            busy("item(0, " + none + ", 0)", g -> g.item(0, none, 0), BAD);
            busy("no such sort, missing", g -> g.item(2, none, 0), BAD);
            busy("item(0, 0, " + none + ")", g -> g.item(0, 0, none), -12);
            busy("missing, outside", g -> g.item(2, 0, none), -11);
            busy("another sort, outside", g -> g.item(0, 1, none), -13);
        }
        busy("the first", g -> g.item(0, 0, 0), 1);
        busy("the last", g -> g.item(0, 0, 3), 0);
        busy("the last of longs", g -> g.item(1, 3, 1), -9);
        busy("behind the last of longs", g -> g.item(1, 3, 2), -12);
        GooseArms g = new GooseArms();
        for (int sort = 0; sort < 4; sort++) {
            g.sheet(sort, sort, 1);
            for (int as = 0; as < 4; as++) {
                due("sort " + sort + " taken for " + as, g.item(sort, as, 0), as == sort ? 0 : -13);
            }
        }
        g.sheet(0, 0, 0);
        due("no items", g.item(0, 0, 0), -12);
        due("no items, another sort", g.item(0, 1, 0), -13);
        sentence(39, "(An item may be as low as these, too.)");
        for (int low = -14; low < 0; low++) {
            g.put(2, 0, low);
            due("an int of " + low, g.item(2, 2, 0), low);
        }
    }

    // ---- SHELVES ----

    private static void shelf() {
        sentence(40, "BAD: no such SHELF, what, thing.");
        for (int none : NO_PLACE) {
            for (int what = 0; what < 3; what++) {
                int w = what;
                busy("shelf(" + none + ", " + what + ", 0)", g -> g.shelf(none, w, 0), BAD);
            }
            busy("no row of SHEET " + none, g -> g.shelf(0, 1, none), BAD);
        }
        for (int what : new int[] {-1, 3, MIN, MAX}) {
            busy("shelf(0, " + what + ", 0)", g -> g.shelf(0, what, 0), BAD);
        }
        for (int one : NOBODY) {
            busy("shelf(1, 0, " + one + ")", g -> g.shelf(1, 0, one), BAD);
        }
        sentence(40, "nothing (2): 1.");
        for (int n : new int[] {0, -1, 9, MIN, MAX}) {
            GooseArms g = Edge.busy();
            due("nothing by " + n, g.shelf(0, 2, n), 1);
            due("it holds", g.taken(0, 0), -11);
            busy("where nothing was, by " + n, b -> b.shelf(3, 2, n), 1);
        }
    }

    private static void shelfHolds() {
        sentence(40, "A SHELF holds one of the HEARERS (what 0, its number n), the row of SHEET n (1; nothing, if missing)");
        GooseArms g = Edge.busy();
        for (int shelf = 0; shelf < 4; shelf++) {
            for (int n = 0; n < 3; n++) {
                due("one of the HEARERS", g.shelf(shelf, 0, n), 1);
                due("SHELF " + shelf + " holds", g.taken(shelf, 0), n);
            }
        }
        g.sheet(3, 2, 40);
        due("the row of the last SHEET", g.shelf(3, 1, 3), 1);
        due("it holds", g.taken(3, 12), 40);
        due("the row of the first", g.shelf(3, 1, 0), 1);
        due("it holds", g.taken(3, 10), 4);
        g.sheet(2, 1, 0);
        due("a row of no items is a row", g.shelf(3, 1, 2), 1);
        due("it holds", g.taken(3, 11), 0);
        g.sheet(2, -1, 0);
        due("a missing one", g.shelf(3, 1, 2), 1);
        due("it holds nothing", g.taken(3, 11), -11);
        due("nothing at all", g.taken(3, 0), -11);
        sentence(40, "hold one of the HEARERS (by its number; nothing, if there is no such one at the time)");
        due("the third", g.taken(2, 0), 2);
        g.court();
        due("a court with a fault leaves it", g.taken(2, 0), 2);
        Edge.told(g, "judge;judge;");
        due("two are there", g.taken(2, 0), -11);
        due("no ACT of it", g.act(2, SHAKES, 1), 0);
        g.hearer(4, 0, 0);
        due("three are there", g.taken(2, 4), 2);
        sentence(40, "a SHEET's row");
        g.sheet(0, 0, 4);
        g.shelf(0, 1, 0);
        g.sheet(0, 3, 9);
        due("the row that it was", g.taken(0, 10), 4);
        g.sheet(0, -1, 0);
        due("the row that it was", g.taken(0, 10), 4);
    }

    private static void takenKinds() {
        sentence(41, "What a SHELF holds taken for a thing of KIND as (0 to 5, or one under it): its number");
        int[] over = {1, 3, 5, 11, 21, 33};
        GooseArms g = Edge.courtOf("horse;hearer;");
        g.shelf(3, 0, 1);
        for (int kind = 0; kind < 6; kind++) {
            g.mind(1, kind, 0);
            for (int as = 0; as < 6; as++) {
                due("a " + kind + " taken for " + as, g.taken(3, as), (over[kind] >> as & 1) == 1 ? 1 : -13);
            }
        }
        g.shelf(3, 0, 0);
        due("the number 0", g.taken(3, 5), 0);
    }

    private static void takenRows() {
        sentence(41, "for a row of sort as - 10 (as 10 to 13): how many items.");
        GooseArms g = Edge.courtOf("hearer;");
        for (int sort = 0; sort < 4; sort++) {
            for (int items : new int[] {0, 1, 40}) {
                g.sheet(sort, sort, items);
                g.shelf(0, 1, sort);
                for (int as = 10; as < 14; as++) {
                    due(items + " of sort " + sort + " taken for " + as, g.taken(0, as), as == sort + 10 ? items : -13);
                }
                due("a row taken for a thing", g.taken(0, 0), -13);
                due("a row taken for a horse", g.taken(0, 5), -13);
            }
        }
        g.shelf(0, 0, 0);
        due("a thing taken for bytes", g.taken(0, 10), -13);
        due("a thing taken for longs", g.taken(0, 13), -13);
    }

    private static void takenRefused() {
        sentence(41, "BAD: no such SHELF, as; -11; -13.");
        for (int none : NO_PLACE) {
            busy("taken(" + none + ", 0)", g -> g.taken(none, 0), BAD);
        }
        for (int as : new int[] {-1, 6, 7, 8, 9, 14, MIN, MAX}) {
            busy("taken(0, " + as + ")", g -> g.taken(0, as), BAD);
            busy("taken of a row, " + as, g -> g.taken(1, as), BAD);
            busy("taken of nothing, " + as, g -> g.taken(3, as), BAD);
        }
        for (int as : new int[] {0, 5, 10, 13}) {
            busy("nothing taken for " + as, g -> g.taken(3, as), -11);
        }
        busy("a judge taken for an elder", g -> g.taken(0, 3), -13);
        busy("bytes taken for longs", g -> g.taken(1, 13), -13);
    }

    // ---- ACTS ----

    private static void noAct(String what, int shelf, int act) {
        GooseArms g = Edge.busy();
        due("a TRACE before", g.many(6), 3);
        due(what, g.act(shelf, act, 7), 0);
        due(what + ": no TRACE", g.many(6), 0);
        due(what + ": no body", g.trace(0), NONE);
        due(what + ": all else stays", g.taken(0, 1) * 100 + g.many(4) * 10 + g.many(0), 123);
    }

    private static void actNone() {
        sentence(42, "0, and no TRACE then: no such SHELF, act, nothing, a row.");
        for (int none : NO_PLACE) {
            noAct("act(" + none + ", 0, 7)", none, SHAKES);
            noAct("act(0, " + none + ", 7)", 0, none);
        }
        noAct("a row", 1, SHAKES);
        noAct("nothing", 3, SWEARS);
        GooseArms g = Edge.busy();
        due("a TRACE before", g.many(6), 3);
        Edge.told(g, "ge;");
        Edge.told(g, "hearer;");
        due("nobody at the time", g.act(0, READS, 7), 0);
        due("no TRACE", g.many(6), 0);
        sentence(42, "An ACT (0 to 3) of the thing on a SHELF");
        GooseArms all = Edge.courtOf("hearer;hearer;hearer;hearer;");
        for (int i = 0; i < 4; i++) {
            all.shelf(i, 0, i);
            due("the first ACT on SHELF " + i, all.act(i, SHAKES, 1), 5 + i);
        }
        due("the last ACT", all.act(0, SWEARS, 1), 2 ^ 150);
    }

    /** One of a kind with the number n, as TENDER as told, on SHELF 0. */
    private static GooseArms thing(int kind, int n, int tender) {
        GooseArms g = new GooseArms();
        for (int i = 0; i <= n; i++) {
            g.hearer(kind, tender, 0);
        }
        g.shelf(0, 0, n);
        return g;
    }

    private static void actWraps() {
        sentence(42, "ACTS of things, with a number x (ints that wrap)");
        // 5 times 2147483647 is 10737418235, less 2 times 2 to the 32nd: 2147483643
        due("10 of MAX", thing(HEARER, 0, 0).act(0, SHAKES, MAX), 2147483643);
        due("10 of MAX and 4", thing(HEARER, 4, 0).act(0, SHAKES, MAX), MAX);
        due("10 of MAX and 5", thing(HEARER, 5, 0).act(0, SHAKES, MAX), MIN);
        due("10 of MIN", thing(HEARER, 0, 0).act(0, SHAKES, MIN), MIN);
        due("11 of MIN, less 0", thing(HEARER, 0, 0).act(0, READS, MIN), MIN);
        due("11 of MIN, less 1", thing(HEARER, 0, 1).act(0, READS, MIN), MAX);
        due("12 of MIN by -1", thing(HEARER, 1, 0).act(0, PARTS, MIN), MIN);
        due("12 of MAX by -1", thing(HEARER, 1, 0).act(0, PARTS, MAX), -MAX);
        due("13 of MIN", thing(HEARER, 0, 0).act(0, SWEARS, MIN), MIN + 150);
        due("13 of MAX, less 1", thing(HEARER, 0, 1).act(0, SWEARS, MIN), MAX - 150);
    }

    private static void actWrapsInSuper() {
        sentence(42, "ACTS of things, with a number x (ints that wrap)");
        // 5 times 214748364, and 4, are 2 to the 30th
        due("20: twice 2 to the 30th", thing(JUDGE, 4, 0).act(0, READS, 214748364), MIN);
        due("20: twice that less 1", thing(JUDGE, 4, 1).act(0, READS, 214748364), MAX - 1);
        due("30: MIN less 4", thing(ADVOCATE, 0, 0).act(0, SHAKES, MIN), MAX - 3);
        due("40: 0 less MIN", thing(LIAR, 4, 0).act(0, SHAKES, MIN), MIN);
        // MIN less 4 (shakes) less 1 (reads) is MAX - 4; and parts(0) is 0 by 1
        due("31: wrapped, ^ 150, and 0", thing(ADVOCATE, 0, 1).act(0, SWEARS, MIN), (MAX - 4) ^ 150);
        // 5 times -1288490218 is MAX - 145 when wrapped, less 5 is MAX - 150, ^ 150 is MAX; and parts(1) is 1 by 1
        due("31: MAX and 1", thing(ADVOCATE, 1, 2).act(0, SWEARS, -1288490218), MIN);
        due("50: 3 times a third of 2 to the 32nd less 1 is -1", thing(ELDER, 0, 1).act(0, PARTS, 1431655765), 1);
        due("50: 3 times MIN is MIN", thing(ELDER, 0, 1).act(0, PARTS, MIN), MIN + 2);
        due("50: MAX and 2", thing(ELDER, 0, 1).act(0, PARTS, -715827883), MIN + 1);
        due("51: 2147483643 and 99", thing(ELDER, 0, 99).act(0, SHAKES, MAX), MIN + 94);
        // reads MIN; ^ 150; twice that is 300
        due("60: twice MIN and 150", thing(HORSE, 0, 0).act(0, SWEARS, MIN), 300);
        // 7 shakes at its own number 7: 42; MIN by 1 less 42
        due("61: MIN less 42", thing(HORSE, 7, 8).act(0, PARTS, MIN), MAX - 41);
    }

    private static void actsOf(int kind, int x, int shakes, int reads, int parts, int swears) {
        int[] want = {shakes, reads, parts, swears};
        GooseArms g = thing(kind, 3, 5);
        for (int act = SHAKES; act <= SWEARS; act++) {
            due("ACT " + act + " of " + kind, g.act(0, act, x), want[act]);
        }
    }

    private static void actEach() {
        sentence(42, "ACTS of things, with a number x (ints that wrap): 0 shakes, 1 reads, 2 parts, 3 swears.");
        // n 3, a 5: shakes 5 times x and 3, reads 5 less, parts by 2
        actsOf(HEARER, 0, 3, -2, 0, -2 ^ 150);
        actsOf(HEARER, -9, -42, -47, -4, -47 ^ 150);
        actsOf(JUDGE, -9, -42, -94, -4, -94 ^ 150);
        // parts(3) is 3 by 2
        actsOf(ADVOCATE, -9, -46, -51, -4, (-51 ^ 150) + 1);
        // parts -27 by 2, and 2; shakes -42 and 5, reads twice (-37 less 5)
        actsOf(ELDER, -9, -37, -84, -11, -84 ^ 150);
        // shakes 0 less -46; reads (46 less 5) ^ shakes(5), which is 0 less 24
        actsOf(LIAR, -9, 46, 41 ^ -24, -4, (41 ^ -24 ^ 150) + 1);
        // parts -4 less shakes(3), which is 18
        actsOf(HORSE, -9, -42, -47, -22, (-47 ^ 150) * 2);
    }

    private static void actCut() {
        sentence(42, "12 parts: x by (a - n), cut");
        sentence(42, "Quotients are cut towards 0.");
        int[] xs = {7, -7, 1, -1, 0, 2, -2, MAX, MIN};
        int[] byTwo = {3, -3, 0, 0, 0, 1, -1, 1073741823, -1073741824};
        for (int i = 0; i < xs.length; i++) {
            due(xs[i] + " by 2", thing(HEARER, 0, 2).act(0, PARTS, xs[i]), byTwo[i]);
            due(xs[i] + " by -2", thing(HEARER, 2, 0).act(0, PARTS, xs[i]), -byTwo[i]);
        }
        due("99 by 99", thing(HEARER, 0, 99).act(0, PARTS, 99), 1);
        due("98 by 99", thing(HEARER, 0, 99).act(0, PARTS, 98), 0);
        due("-98 by 99", thing(HEARER, 0, 99).act(0, PARTS, -98), 0);
        due("7 by -7", thing(HEARER, 7, 0).act(0, PARTS, 7), -1);
        due("-6 by -7", thing(HEARER, 7, 0).act(0, PARTS, -6), 0);
        due("50: -8 * 3 by 7, and 2", thing(ELDER, 0, 7).act(0, PARTS, -8), -1);
    }

    private static void actByZero() {
        sentence(42, "(-15 if these are the same; that is all that act() answers then)");
        for (int n = 0; n < 8; n++) {
            for (int kind = HEARER; kind <= HORSE; kind++) {
                due("kind " + kind + ", a and n " + n, thing(kind, n, n).act(0, PARTS, 1000), -15);
            }
            due("advocate swears, a and n " + n, thing(ADVOCATE, n, n).act(0, SWEARS, 1000), -15);
            due("liar swears, a and n " + n, thing(LIAR, n, n).act(0, SWEARS, 1000), -15);
            due("1 more", thing(HEARER, n, n + 1).act(0, PARTS, 1000), 1000);
        }
        for (int n = 1; n < 8; n++) {
            due("1 less", thing(HEARER, n, n - 1).act(0, PARTS, 1000), -1000);
        }
        due("0 by 0", thing(HEARER, 0, 0).act(0, PARTS, 0), -15);
        due("MIN by 0", thing(HEARER, 0, 0).act(0, PARTS, MIN), -15);
        due("what doesn't part", thing(ADVOCATE, 1, 1).act(0, READS, 2), 6);
        GooseArms g = thing(ADVOCATE, 1, 1);
        g.act(0, SWEARS, 2);
        due("the next ACT", g.act(0, READS, 2), 6);
        due("as low as that", thing(HEARER, 0, 1).act(0, PARTS, -15), -15);
    }

    private static void actNow() {
        sentence(42, "One of the HEARERS is held as a thing of the KIND; n: the number, a: TENDER.");
        GooseArms g = thing(HEARER, 1, 5);
        due("as it was", g.act(0, READS, 1), 1);
        g.tender(1, 99);
        due("as TENDER as it is now", g.act(0, READS, 1), -93);
        g.mind(1, ELDER, 0);
        due("of the KIND that it is now", g.act(0, READS, 1), 12);
        g.tender(1, 0);
        due("not TENDER at all", g.act(0, READS, 1), 12);
    }

    private static void trace() {
        sentence(43, "THE TRACE's i-th body. NONE.");
        for (int i : new int[] {-1, 3, 29, 30, MIN, MAX}) {
            busy("trace(" + i + ")", g -> g.trace(i), NONE);
        }
        busy("the first", g -> g.trace(0), 20);
        busy("the last", g -> g.trace(2), 10);
        due("none yet", new GooseArms().trace(0), NONE);
        sentence(43, "numbers of the bodies that ran in the latest act(), as they began (left first); the first 30 are kept.");
        // no ACT has more bodies than this one, so there is no 31st to be left out
        int[] most = {31, 13, 41, 11, 40, 30, 10, 40, 30, 10, 12};
        GooseArms g = thing(LIAR, 0, 1);
        g.act(0, SWEARS, 1);
        due("bodies", g.many(6), most.length);
        for (int i = 0; i < most.length; i++) {
            due("body " + i, g.trace(i), most[i]);
        }
        due("no more", g.trace(most.length), NONE);
    }

    private static void traceLatest() {
        sentence(43, "numbers of the bodies that ran in the latest act()");
        GooseArms g = thing(LIAR, 0, 1);
        g.act(0, SWEARS, 1);
        g.act(0, PARTS, 1);
        due("those of the latest alone", g.many(6), 1);
        due("its body", g.trace(0), 12);
        due("not those before", g.trace(1), NONE);
        // parted by 0: those that began, the one that parts the last of them
        int[][] began = {{12}, {12}, {12}, {50, 12}, {12}, {61, 12}};
        for (int kind = HEARER; kind <= HORSE; kind++) {
            GooseArms zero = thing(kind, 0, 0);
            zero.act(0, PARTS, 1);
            due("bodies of " + kind, zero.many(6), began[kind].length);
            for (int i = 0; i < began[kind].length; i++) {
                due("body " + i + " of " + kind, zero.trace(i), began[kind][i]);
            }
        }
    }

    // ---- how many, and what is kept ----

    private static void many() {
        sentence(44, "BAD: another what.");
        for (int what : new int[] {-1, 7, MIN, MAX}) {
            busy("many(" + what + ")", g -> g.many(what), BAD);
        }
        sentence(44, "How many: what = 0 HEARERS, 1 SAYINGS that are left, 2 SAYINGS that are SO, 3 HEARERS whose ARMS are not bare, "
            + "4 ROWS, 5 bytes of THE TAPE, 6 bodies of THE TRACE");
        for (int what = 0; what < 7; what++) {
            due("nothing at all, " + what, new GooseArms().many(what), 0);
        }
        int[] want = {3, 3, 2, 3, 2, 18, 3};
        for (int what = 0; what < 7; what++) {
            int w = what;
            busy("many(" + what + ")", g -> g.many(w), want[w]);
        }
        Edge.leaves("none is left", Edge::busyAllSaid, g -> g.many(1), 0);
    }

    private static void manyFull() {
        sentence(44, "How many: what = 0 HEARERS, 1 SAYINGS that are left, 2 SAYINGS that are SO, 3 HEARERS whose ARMS are not bare");
        GooseArms g = new GooseArms();
        for (int i = 0; i < 12; i++) {
            g.saying(0, 9, 1);
        }
        for (int i = 0; i < 8; i++) {
            g.hearer(HEARER, 3, 0);
        }
        due("eight", g.many(0), 8);
        due("twelve left", g.many(1), 12);
        due("twelve SO", g.many(2), 12);
        due("all bare", g.many(3), 0);
        g.say(11);
        due("one left", g.many(1), 1);
        due("none bare", g.many(3), 8);
        g.say(1);
        due("none left", g.many(1), 0);
        due("twelve SO, said or not", g.many(2), 12);
        Edge.feedText(g, " ".repeat(200));
        sentence(44, "5 bytes of THE TAPE");
        due("all 200", g.many(5), 200);
        g.court();
        due("used up", g.many(5), 0);
    }

    private static void keep() {
        sentence(45, "All but THE TAPE, ROWS, SHEETS, SHELVES, THE TRACE is kept: 1.");
        due("nothing at all is kept, too", keptNothing(), 0);
        GooseArms g = new GooseArms();
        Edge.sayings(g, 12);
        Edge.hearers(g, 8);
        g.set(0, 9);
        g.set(1, 0);
        g.set(2, 0);
        g.set(3, 99);
        g.say(12);
        g.seed(MIN);
        due("keep()", g.keep(), 1);
        int[] arms = new int[8];
        for (int i = 0; i < 8; i++) {
            arms[i] = g.of(i, 3);
        }
        Edge.told(g, "say 1;hearer;wear 7;");
        Edge.sayings(g, 11);
        Edge.hearers(g, 7);
        for (int i = 0; i < 3; i++) {
            g.alter(11, i, 1);
        }
        due("eight of them", g.again(), 8);
        due("twelve SAYINGS", g.state(1), 12);
        due("SAID", g.state(0), 12);
        due("the last SAYING's TOPIC", g.sayingOf(11, 0), 3);
        due("its HEAT", g.sayingOf(11, 1), 2);
        due("SO or not", g.state(2), 1365);
        for (int i = 0; i < 8; i++) {
            due("ARM of " + i, g.of(i, 3), arms[i]);
            due("MIND of " + i, g.of(i, 2), 255 - i);
            due("KIND of " + i, g.of(i, 0), i % 6);
        }
        int[] laws = {9, 0, 0, 99};
        for (int law = 0; law < 4; law++) {
            due("LAW " + law, g.lawOf(law), laws[law]);
        }
        due("z", g.seed(0), MIN);
    }

    private static int keptNothing() {
        GooseArms g = new GooseArms();
        g.keep();
        Edge.told(g, "say 1;hearer;cold 9;");
        g.seed(9);
        due("nobody", g.again(), 0);
        due("COLD", g.lawOf(0), 2);
        due("z", g.seed(0), 1);
        return g.state(1);
    }

    private static void again() {
        sentence(46, "NONE: nothing is kept.");
        Edge.leaves("again()", Edge::twelveSayings, GooseArms::again, NONE);
        Edge.leaves("again() of eight", Edge::eightHearers, GooseArms::again, NONE);
        due("nothing at all", new GooseArms().again(), NONE);
        sentence(46, "It becomes what was kept latest (which stays): how many HEARERS.");
        GooseArms g = Edge.courtOf("hearer;");
        g.keep();
        g.hearer(1, 1, 1);
        g.keep();
        g.hearer(2, 2, 2);
        due("the latest", g.again(), 2);
        g.tender(0, 77);
        g.mind(1, 5, 0);
        g.hearer(3, 3, 3);
        g.set(0, 9);
        due("it stays", g.again(), 2);
        due("TENDER", g.of(0, 1), 3);
        due("KIND", g.of(1, 0), 1);
        due("LAW", g.lawOf(0), 2);
        g.saying(1, 1, 1);
        g.say(1);
        due("once more", g.again(), 2);
        due("no SAYINGS", g.state(1), 0);
        due("SAID", g.state(0), 0);
    }

    private static GooseArms keptAsItIs() {
        GooseArms g = Edge.busy();
        g.keep();
        return g;
    }

    private static void againLeaves() {
        sentence(46, "It becomes what was kept latest (which stays)");
        Edge.leaves("again() at once", EdgesThingsTest::keptAsItIs, GooseArms::again, 3);
        GooseArms g = Edge.busy();
        due("another case", g.again(), 1);
        due("ROWS stay", g.many(4), 2);
        due("a ROW stays", g.row(1, 1), 60);
        due("THE TAPE stays", g.many(5), 18);
        due("THE TRACE stays", g.trace(0), 20);
        due("SHEETS stay", g.item(1, 3, 1), -9);
        due("a SHELF's row stays", g.taken(1, 10), 4);
        due("a SHELF's number stays, nobody bears it", g.taken(0, 0), -11);
        g.hearer(5, 5, 5);
        due("now one does", g.taken(0, 5), 1);
        due("the tape's bytes", Edge.told(g, "ge;"), 2);
        // what came to be kept before all of that doesn't go with it
        GooseArms before = Edge.busy();
        before.keep();
        before.sheet(0, -1, 0);
        before.shelf(1, 2, 0);
        before.prove(0, 1);
        before.act(0, SHAKES, 1);
        before.court();
        before.again();
        due("SHEETS stay as they are", before.item(0, 0, 0), -11);
        due("SHELVES stay as they are", before.taken(1, 10), -11);
        due("ROWS stay as they are", before.many(4), 1);
        due("THE TRACE stays as it is", before.many(6), 1);
        due("THE TAPE stays as it is", before.many(5), 0);
    }
}
