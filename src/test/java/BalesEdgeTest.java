import java.util.Arrays;

/** Promises 6 to 12 and 30, sentence by sentence. */
final class BalesEdgeTest {
    private static final int[] KINDS = {0, 1, 2};

    public static void main(String[] args) {
        numbersOfABale();
        twentyFourBales();
        noneFirst();
        nBelowNone();
        missing();
        belowNone();
        moreThanToldWeight();
        byLongs();
        lowestBits();
        steps();
        lotsOfPoundsAboveNone();
        dust();
        numbersOfOf();
        whatIsOfABale();
        lostTo();
        numbersOfALook();
        sixtyLooks();
        daysOfAs();
        numbersOfOff();
        knownFromThatDay();
        equalDays();
        offAtFirst();
        offOfAThousand();
        lettersOfAContract();
        dryPounds();
        notSorted();
        dueOfBothSides();
        dueByLongs();
        numbersOfForetell();
        foretold();
        leastAndGreatest();
        ofASellerWithAMark();
        Check.finish();
    }

    /** "of a SELLER 0 .. 3, with a MARK 0 .. 7, a TOLD WEIGHT (1 .. 9999 pounds), a RATE (pence a pound, 0 .. 999)" */
    private static void numbersOfABale() {
        Check.ends("SELLER", Town::busy, (x, v) -> x.bale(v, 0, 1, 0), 0, 3, -1);
        Check.ends("MARK", Town::busy, (x, v) -> x.bale(0, v, 1, 0), 0, 7, -1);
        Check.ends("TOLD WEIGHT", Town::busy, (x, v) -> x.bale(0, 0, v, 0), 1, 9999, -1);
        Check.ends("RATE", Town::busy, (x, v) -> x.bale(0, 0, 1, v), 0, 999, -1);
        RagTown x = new RagTown();
        Check.is("its number", x.bale(3, 7, 9999, 999), 0);
        Check.is("a refused one", x.bale(3, 8, 1, 0), -1);
        Check.is("the next number", x.bale(0, 0, 1, 0), 1);
        Check.is("the most", x.of(0, 0), 9999);
        Check.is("the least", x.of(1, 0), 1);
    }

    /** "BALES 0 .. (at most 24)" */
    private static void twentyFourBales() {
        Check.most("BALES", 2, 24, 23, x -> x.bale(2, 1, 10, 1));
        RagTown x = Town.withSorts(1);
        for (int b = 0; b < 24; b++) {
            x.bale(0, 0, 9, 0);
        }
        Check.is("the last is SORTED", x.open(23, 0, 0, 1, 9, 0), 0);
        Check.is("none behind it", x.open(24, 0, 0, 1, 9, 0), -1);
    }

    /** "NONE: no such BALE, SORTER, kind, it is SORTED, n above the SORTS (these first)." */
    private static void noneFirst() {
        Check.ends("BALE", () -> unsorted(9), (x, v) -> x.open(v, 0, 0, 0, 0, 0), 0, 8, -1);
        Check.ends("SORTER", () -> unsorted(1), (x, v) -> x.open(0, v, 0, 0, 0, 0), 0, 5, -1);
        Check.ends("kind", () -> unsorted(1), (x, v) -> x.open(0, 0, v, 0, 0, 0), 0, 3, -1);
        for (int kind = 0; kind <= 3; kind++) {
            for (int n : new int[] {-1, Integer.MIN_VALUE, 0, 1, 3}) {
                int k = kind;
                String what = "kind " + kind + ", n " + n;
                Check.refused("no such BALE, " + what, () -> unsorted(1), x -> x.open(1, 0, k, n, -1, 0), -1);
                Check.refused("no such SORTER, " + what, () -> unsorted(1), x -> x.open(0, 6, k, n, -1, 0), -1);
                Check.refused("SORTED, " + what, Town::busy, x -> x.open(1, 0, k, n, -1, 0), -1);
                Check.refused("no such kind, " + what, () -> unsorted(1), x -> x.open(0, 0, 4 + k, n, -1, 0), -1);
            }
            int k = kind;
            for (int n : new int[] {4, 5, Integer.MAX_VALUE}) {
                Check.refused("n above the SORTS, kind " + k, () -> unsorted(1), x -> x.open(0, 0, k, n, -1, 0), -1);
            }
            Check.is("n the SORTS, kind " + k, unsorted(1).open(0, 0, k, 3, 0, 0), k == 3 ? -3 : 9999);
        }
        RagTown x = new RagTown();
        x.bale(0, 0, 5, 0);
        Check.is("n above no SORTS", x.open(0, 0, 0, 1, 0, 0), -1);
        Check.is("n 0 of no SORTS", x.open(0, 0, 0, 0, 0, 0), 5);
    }

    /** 3 SORTS, and so many BALES of 9999 pounds that are not SORTED. */
    private static RagTown unsorted(int many) {
        RagTown x = Town.withSorts(3);
        for (int b = 0; b < many; b++) {
            x.bale(0, 0, 9999, 0);
        }
        return x;
    }

    /** "-2: n below 0 (of kinds 0 .. 2)" */
    private static void nBelowNone() {
        for (int kind : KINDS) {
            for (int n : new int[] {-1, -2, Integer.MIN_VALUE}) {
                Check.refused("n " + n, Town::busy, x -> x.open(3, 0, kind, n, -1, 0), -2);
            }
            Check.is("n 0", Town.busy().open(3, 0, kind, 0, -1, 0), 100);
        }
    }

    /** "-3: missing" */
    private static void missing() {
        for (int n : new int[] {Integer.MIN_VALUE, -1, 0, 1, 5}) {
            Check.refused("missing, n " + n, Town::busy, x -> x.open(3, 0, 3, n, 1, 0), -3);
            Check.refused("missing, numbers below 0, n " + n, Town::busy, x -> x.open(3, 0, 3, n, -1, 0), -3);
        }
        Check.refused("missing, n above", Town::busy, x -> x.open(3, 0, 3, 6, 1, 0), -1);
    }

    /** "-4: a number below 0" */
    private static void belowNone() {
        for (int kind : KINDS) {
            Check.refused("the first", Town::busy, x -> x.open(3, 0, kind, 1, -1, 0), -4);
            Check.refused("the first of some", Town::busy, x -> x.open(3, 0, kind, 3, -1, 1), -4);
            Check.refused("the last of some", Town::busy, x -> x.open(3, 0, kind, 3, 3, -2), -4);
            Check.refused("below 0, in all above", Town::busy, x -> x.open(3, 0, kind, 2, -5, 100), -4);
            Check.is("the last is 0", Town.busy().open(3, 0, kind, 3, 4, -2), 94);
            Check.is("n stops ahead of it", Town.busy().open(3, 0, kind, 2, 3, -2), 96);
        }
    }

    /** "or more than TOLD WEIGHT in all" */
    private static void moreThanToldWeight() {
        for (int kind : KINDS) {
            Check.is("all of it", Town.busy().open(3, 1, kind, 1, 100, 0), 0);
            Check.is("all of it in five", Town.busy().open(3, 1, kind, 5, 20, 0), 0);
            Check.is("all but one", Town.busy().open(3, 1, kind, 1, 99, 0), 1);
            Check.refused("one more", Town::busy, x -> x.open(3, 1, kind, 1, 101, 0), -4);
            Check.refused("one more in two", Town::busy, x -> x.open(3, 1, kind, 2, 50, 1), -4);
            Check.refused("more by the last", Town::busy, x -> x.open(3, 1, kind, 4, 28, -1), -4);
        }
        for (int kind = 1; kind <= 2; kind++) {
            Check.is("the most", unsorted(1).open(0, 1, kind, 1, 9999, 0), 0);
            Check.is("one more", unsorted(1).open(0, 1, kind, 1, 10000, 0), -4);
        }
    }

    /** "in all (by longs)" */
    private static void byLongs() {
        Check.is("2 to the 32nd", four().open(0, 0, 2, 4, 1 << 30, 0), -4);
        Check.is("2 to the 32nd and 8", four().open(0, 0, 2, 4, (1 << 30) + 2, 0), -4);
        Check.is("2 to the 31st", four().open(0, 0, 2, 2, 1 << 30, 0), -4);
        Check.is("the greatest int", four().open(0, 0, 2, 1, Integer.MAX_VALUE, 0), -4);
        Check.is("three of them", four().open(0, 0, 2, 3, Integer.MAX_VALUE, 0), -4);
        Check.refused("as it was", BalesEdgeTest::four, x -> x.open(0, 0, 2, 4, 1 << 30, 0), -4);
    }

    private static RagTown four() {
        RagTown x = Town.withSorts(4);
        x.bale(0, 0, 9999, 0);
        return x;
    }

    /** "of bytes, shorts the lowest bits, with their sign" */
    private static void lowestBits() {
        int[][] bytes = {{127, 127}, {128, -4}, {255, -4}, {256, 0}, {383, 127}, {384, -4}, {-1, -4}, {-128, -4},
            {-129, 127}, {-256, 0}, {Integer.MAX_VALUE, -4}, {Integer.MIN_VALUE, 0}, {Integer.MIN_VALUE + 5, 5}};
        for (int[] b : bytes) {
            Check.is("byte " + b[0], unsorted(1).open(0, 0, 0, 1, b[0], 0), b[1] < 0 ? -4 : 9999 - b[1]);
        }
        int[][] shorts = {{128, 128}, {255, 255}, {9999, 9999}, {32767, -4}, {32768, -4}, {65535, -4}, {65536, 0},
            {65536 + 9999, 9999}, {65536 + 10000, -4}, {-1, -4}, {-32768, -4}, {-65536, 0}, {-65536 + 77, 77},
            {Integer.MAX_VALUE, -4}, {Integer.MIN_VALUE, 0}, {Integer.MIN_VALUE + 300, 300}};
        for (int[] s : shorts) {
            Check.is("short " + s[0], unsorted(1).open(0, 0, 1, 1, s[0], 0), s[1] < 0 ? -4 : 9999 - s[1]);
        }
        int[][] ints = {{0, 0}, {128, 128}, {9999, 9999}, {65536, -4}, {-1, -4}, {Integer.MIN_VALUE, -4}};
        for (int[] i : ints) {
            Check.is("int " + i[0], unsorted(1).open(0, 0, 2, 1, i[0], 0), i[1] < 0 ? -4 : 9999 - i[1]);
        }
    }

    /** "n entries f, f + step, .." */
    private static void steps() {
        RagTown x = unsorted(4);
        Check.is("bytes", x.open(0, 0, 0, 3, 3, 5), 9999 - 3 - 8 - 13);
        Check.is("of 0", x.store(0, 0), 3);
        Check.is("of 1", x.store(1, 0), 8);
        Check.is("of 2", x.store(2, 0), 13);
        Check.is("bytes of a step of 256", x.open(1, 0, 0, 3, 7, 256), 9999 - 21);
        Check.is("bytes past the greatest int", x.open(2, 0, 0, 2, Integer.MAX_VALUE - 254, 255), 9999 - 1);
        Check.is("shorts past the least int", x.open(3, 0, 1, 3, Integer.MIN_VALUE + 9, -65535), 9999 - 9 - 10 - 11);
        Check.is("as the DUST of 3 tells", x.of(3, 1), 9969);
    }

    /** "LOTS come to the STORE of pounds above 0, by SORTS." */
    private static void lotsOfPoundsAboveNone() {
        RagTown x = unsorted(3);
        x.open(0, 0, 2, 3, 0, 1);
        Check.is("none of 0", x.count(5), 2);
        x.open(1, 0, 2, 3, 2, -1);
        Check.is("none of 2", x.count(5), 4);
        x.open(2, 0, 2, 0, 1, 1);
        Check.is("none at all", x.count(5), 4);
        Check.is("one pound", x.store(1, 0), 2);
        Check.is("a part of the sheet", unsortedWith(2).count(5), 2);
    }

    private static RagTown unsortedWith(int n) {
        RagTown x = unsorted(1);
        x.open(0, 0, 0, n, 1, 0);
        return x;
    }

    /** "DUST: TOLD WEIGHT less these" */
    private static void dust() {
        RagTown x = unsorted(2);
        Check.is("no pound is SORTED", x.open(0, 2, 1, 0, 5, 5), 9999);
        Check.is("all DUST", x.of(0, 1), 9999);
        Check.is("all is SORTED", x.open(1, 3, 1, 3, 3333, 0), 0);
        Check.is("no DUST", x.of(1, 1), 0);
        x.fire(1000);
        Check.is("fires leave the DUST", x.of(1, 1), 0);
        Check.is("SORTED once", x.open(0, 2, 1, 0, 5, 5), -1);
    }

    private static void numbersOfOf() {
        Check.ends("BALE", Town::busy, (x, v) -> x.of(v, 0), 0, 3, -1);
        Check.ends("what", Town::busy, (x, v) -> x.of(0, v), 0, 5, -1);
    }

    /** "DUST (NONE if it is not SORTED), 2: its SORTER (NONE)" */
    private static void whatIsOfABale() {
        int[] unsorted = {100, -1, -1, 0, 0, 0};
        int[] sorted = {3000, 700, 5, 2114, 20, 166};
        for (int what = 0; what <= 5; what++) {
            Check.is("not SORTED, what " + what, Town.busy().of(3, what), unsorted[what]);
            Check.is("SORTED, what " + what, Town.busy().of(1, what), sorted[what]);
        }
        for (int sorter = 0; sorter < 6; sorter++) {
            RagTown x = unsorted(1);
            x.open(0, sorter, 0, 3, 1, 0);
            Check.is("its SORTER", x.of(0, 2), sorter);
        }
    }

    /** "pounds lost to fires, moths, wipers, PACKS": each alone */
    private static void lostTo() {
        Check.Act[] calls = {x -> x.fire(100), x -> x.moth(0), x -> x.wipe(1, 7, 0), x -> x.pack(1, 8, 2, 9),
            x -> x.pack(1, 8, 0, 0), x -> x.make(12)};
        int[] lost = {30, 300, 7, 17, 8, 0};
        for (int i = 0; i < calls.length; i++) {
            RagTown x = unsorted(2);
            x.open(0, 0, 2, 3, 100, 0);
            x.part(0, 12);
            calls[i].on(x);
            Check.is("lost to " + i, x.of(0, 5), lost[i]);
            Check.is("in CLOTH", x.of(0, 4), i == 5 ? 12 : 0);
            Check.is("in the STORE", x.of(0, 3), 300 - lost[i] - x.of(0, 4));
            Check.is("of another", x.of(1, 5), 0);
        }
    }

    /** "by us (0) or the SELLER (1), of a DAY (0 .. 99): WEIGHT (0 .. 9999) and DAMP (of 1000)" */
    private static void numbersOfALook() {
        Check.ends("BALE", Town::busy, (x, v) -> x.look(v, 0, 0, 0, 0), 0, 3, -1);
        Check.ends("side", Town::busy, (x, v) -> x.look(0, v, 0, 0, 0), 0, 1, -1);
        Check.ends("DAY", Town::busy, (x, v) -> x.look(0, 0, v, 0, 0), 0, 99, -1);
        Check.ends("WEIGHT", Town::busy, (x, v) -> x.look(0, 0, 0, v, 0), 0, 9999, -1);
        Check.ends("DAMP", Town::busy, (x, v) -> x.look(0, 0, 0, 0, v), 0, 1000, -1);
        Check.is("how many", Town.busy().look(3, 1, 99, 9999, 1000), 6);
    }

    /** "LOOKS at a BALE (at most 60)" */
    private static void sixtyLooks() {
        Check.most("LOOKS", 3, 60, 60, x -> x.look(2, 0, 7, 2000, 30));
        RagTown x = Town.withSorts(1);
        x.bale(0, 0, 100, 1);
        Check.text(x, 0, 0, "d");
        for (int i = 1; i <= 59; i++) {
            x.look(0, 0, 0, 100, i);
        }
        Check.is("the 60th", x.look(0, 1, 99, 100, 777), 60);
        Check.is("holds", x.off(0, 1), 777);
        Check.is("the 61st", x.look(0, 1, 99, 100, 778), -1);
        Check.is("holds not", x.off(0, 1), 777);
        Check.is("the 59th still", x.off(0, 0), 59);
    }

    /** "AS becomes a DAY (0 .. 99): what it was. Refused: others." and "at first 99" */
    private static void daysOfAs() {
        Check.ends("AS", Town::busy, RagTown::as, 0, 99, -1);
        RagTown x = new RagTown();
        Check.is("at first", x.as(0), 99);
        Check.is("0", x.as(99), 0);
        Check.is("99", x.as(50), 99);
        Check.is("100", x.as(100), -1);
        Check.is("-1", x.as(-1), -1);
        Check.is("as it was", x.as(50), 50);
    }

    private static void numbersOfOff() {
        Check.ends("BALE", BalesEdgeTest::lookedAt, (x, v) -> x.off(v, 0), 0, 3, -1);
        Check.ends("side", BalesEdgeTest::lookedAt, (x, v) -> x.off(3, v), 0, 1, -1);
        Check.ends("BALE of due", BalesEdgeTest::lookedAt, (x, v) -> x.due(v), 0, 3, -1);
        Check.refused("no LOOK of that side", Town::busy, x -> x.off(1, 1), -1);
        Check.refused("no LOOK at all", Town::busy, x -> x.off(2, 0), -1);
    }

    private static RagTown lookedAt() {
        RagTown x = Town.busy();
        x.look(2, 0, 60, 2500, 0);
        return x;
    }

    /** "KNOWN from that DAY on", "that of the greatest DAY not above AS holds" */
    private static void knownFromThatDay() {
        RagTown x = Town.withSorts(1);
        x.bale(0, 0, 100, 1000 - 1);
        Check.text(x, 0, 0, "d");
        int[][] told = {{40, 4}, {0, 9}, {99, 7}, {20, 2}};
        for (int[] t : told) {
            x.look(0, 0, t[0], 100, t[1]);
        }
        x.look(0, 1, 41, 100, 500);
        int[][] want = {{0, 9}, {1, 9}, {19, 9}, {20, 2}, {39, 2}, {40, 4}, {41, 4}, {98, 4}, {99, 7}};
        for (int[] w : want) {
            x.as(w[0]);
            Check.is("AS " + w[0], x.off(0, 0), w[1]);
            Check.is("the other side AS " + w[0], x.off(0, 1), w[0] >= 41 ? 500 : -1);
        }
        RagTown y = Town.withSorts(1);
        y.bale(0, 0, 100, 1);
        y.look(0, 0, 1, 100, 1);
        y.as(0);
        Check.is("not KNOWN as yet", y.off(0, 0), -1);
    }

    /** "of equal ones the one told last" */
    private static void equalDays() {
        RagTown x = Town.withSorts(1);
        x.bale(0, 0, 100, 1);
        x.bale(0, 0, 100, 1);
        Check.text(x, 0, 0, "d");
        x.look(0, 0, 30, 100, 8);
        x.look(0, 0, 30, 100, 3);
        Check.is("told last", x.off(0, 0), 3);
        x.look(0, 0, 29, 100, 5);
        x.look(0, 1, 30, 100, 6);
        x.look(1, 0, 30, 100, 7);
        Check.is("of an earlier DAY, another side, another BALE", x.off(0, 0), 3);
        x.look(0, 0, 0, 100, 11);
        x.look(0, 0, 0, 100, 0);
        x.as(0);
        Check.is("of DAY 0", x.off(0, 0), 0);
    }

    private static int off(String contract) {
        RagTown x = Town.withSorts(1);
        x.bale(2, 7, 100, 1);
        x.look(0, 0, 0, 100, 0);
        Check.is("CONTRACT " + contract, Check.text(x, 0, 2, contract), 0);
        return x.off(0, 0);
    }

    /** "at first 0" */
    private static void offAtFirst() {
        RagTown x = Town.withSorts(1);
        for (int seller = 0; seller < 4; seller++) {
            x.bale(seller, 7, 100, 1);
            x.look(seller, 0, 0, 0, 1000);
        }
        for (int seller = 0; seller < 4; seller++) {
            Check.is("SELLER " + seller, x.off(seller, 0), 0);
        }
        Check.text(x, 0, 1, "l");
        for (int seller = 0; seller < 4; seller++) {
            Check.is("of SELLER 1 alone: " + seller, x.off(seller, 0), seller == 1 ? 1000 : 0);
        }
        Check.text(x, 0, 1, "5");
        Check.is("told again", x.off(1, 0), 5);
    }

    /** "of 1000 (0 at least, 1000 at most)", of an EXPRESSION "as ints" */
    private static void offOfAThousand() {
        String[] texts = {"-1", "0", "1", "999", "1000", "1001", "9999", "-9999", "9999*9999", "9999*9999*22",
            "-(9999*9999*22)", "9999*9999*9999*9999", "8192*8192*32", "-(8192*8192*32)", "8192*8192*64+3"};
        int[] want = {0, 0, 1, 999, 1000, 1000, 1000, 0, 1000, 0, 1000, 1000, 0, 0, 3};
        for (int i = 0; i < texts.length; i++) {
            Check.is("OFF by " + texts[i], off(texts[i]), want[i]);
        }
    }

    private static int off(int weight, int mark, int[] sheet, int[] look, String contract) {
        RagTown x = new RagTown();
        x.sort(1, 1, 1, 1, 0, 0, -1);
        x.sort(1, 1, 1, 1, 0, 1, -1);
        x.sort(1, 1, 1, 1, 0, 0, -1);
        x.bale(3, mark, weight, 1);
        if (sheet.length > 0) {
            Check.yes("it is SORTED", x.open(0, 0, 2, sheet[0], sheet[1], sheet[2]) >= 0);
        }
        x.look(0, 1, 0, look[0], look[1]);
        Check.is("CONTRACT " + contract, Check.text(x, 0, 3, contract), 0);
        return x.off(0, 1);
    }

    /** "l .. (0 at least, cut)", "d DAMP", "k DUST times 1000 by TOLD WEIGHT", "o .. likewise", "q MARK" */
    private static void lettersOfAContract() {
        int[] none = {};
        Check.is("l of one pound less", off(9999, 0, none, new int[] {9998, 0}, "l"), 0);
        Check.is("l of nine pounds less", off(9999, 0, none, new int[] {9990, 0}, "l"), 0);
        Check.is("l of ten pounds less", off(9999, 0, none, new int[] {9989, 0}, "l"), 1);
        Check.is("l of as many", off(9999, 0, none, new int[] {9999, 0}, "l"), 0);
        Check.is("l of one pound more", off(9998, 0, none, new int[] {9999, 0}, "l"), 0);
        Check.is("l not below 0", off(1, 0, none, new int[] {9999, 0}, "l+1"), 1);
        Check.is("l of all", off(1, 0, none, new int[] {0, 0}, "l"), 1000);
        Check.is("l of all of the most", off(9999, 0, none, new int[] {0, 0}, "l"), 1000);
        Check.is("d least", off(5, 0, none, new int[] {5, 0}, "d+3"), 3);
        Check.is("d most", off(5, 0, none, new int[] {5, 1000}, "d"), 1000);
        for (int mark = 0; mark <= 7; mark++) {
            Check.is("q " + mark, off(5, mark, none, new int[] {5, 0}, "q"), mark);
        }
        Check.is("k of no DUST", off(9999, 0, new int[] {1, 9999, 0}, new int[] {0, 0}, "k"), 0);
        Check.is("k cut", off(9999, 0, new int[] {1, 9990, 0}, new int[] {0, 0}, "k"), 0);
        Check.is("k cut at 1", off(9999, 0, new int[] {1, 9989, 0}, new int[] {0, 0}, "k"), 1);
        Check.is("k of all DUST", off(9999, 0, new int[] {0, 0, 0}, new int[] {0, 0}, "k"), 1000);
        Check.is("o of none", off(9999, 0, new int[] {2, 0, 9999}, new int[] {0, 0}, "o"), 0);
        Check.is("o of all", off(9999, 0, new int[] {1, 9999, 0}, new int[] {0, 0}, "o"), 1000);
        Check.is("o of two SORTS", off(999, 0, new int[] {3, 100, 1}, new int[] {0, 0}, "o"), 202);
        Check.is("o of the last SORT", off(1000, 0, new int[] {3, 0, 100}, new int[] {0, 0}, "o"), 200);
        Check.is("o cut", off(9999, 0, new int[] {1, 9, 0}, new int[] {0, 0}, "o"), 0);
    }

    /** "DRY being WEIGHT times (1000 less DAMP) by 1000 (cut)" */
    private static void dryPounds() {
        int[] none = {};
        int[][] looks = {{9999, 1000}, {9999, 999}, {1000, 999}, {999, 999}, {1999, 500}, {2000, 500}, {1, 1}, {1, 0},
            {9999, 1}};
        int[] dry = {0, 9, 1, 0, 999, 1000, 0, 1, 9989};
        for (int i = 0; i < looks.length; i++) {
            Check.is("DRY of " + Arrays.toString(looks[i]), off(1000, 0, none, looks[i], "l"), Math.max(0, 1000 - dry[i]));
        }
    }

    /** "(0, if it is not SORTED)" */
    private static void notSorted() {
        int[] none = {};
        int[] look = {10, 0};
        Check.is("k", off(10, 0, none, look, "k+7"), 7);
        Check.is("o", off(10, 0, none, look, "o+7"), 7);
        Check.is("k once it is", off(10, 0, new int[] {0, 0, 0}, look, "k"), 1000);
        RagTown x = Town.busy();
        Check.text(x, 0, 3, "k");
        Check.is("not SORTED", x.off(3, 0), 0);
        x.open(3, 0, 0, 5, 10, 0);
        Check.is("SORTED", x.off(3, 0), 500);
    }

    /** "OFF being that of both sides (the sum by 2, cut), of the one that there is, or 0" */
    private static void dueOfBothSides() {
        int[][] sides = {{0, 0}, {0, 1}, {1, 0}, {1, 1}, {3, 4}, {1000, 999}, {1000, 1000}, {0, 1000}};
        int[] off = {0, 0, 0, 1, 3, 999, 1000, 500};
        for (int i = 0; i < sides.length; i++) {
            RagTown x = Town.withSorts(1);
            x.bale(0, 0, 1000, 1);
            Check.text(x, 0, 0, "d");
            Check.is("no LOOK", x.due(0), 1000);
            x.look(0, i % 2, 10, 0, sides[i][i % 2]);
            Check.is("one side", x.due(0), 1000 - sides[i][i % 2]);
            x.look(0, 1 - i % 2, 20, 0, sides[i][1 - i % 2]);
            Check.is("both sides " + i, x.due(0), 1000 - off[i]);
            x.as(19);
            Check.is("one is not KNOWN", x.due(0), 1000 - sides[i][i % 2]);
            x.as(9);
            Check.is("none is KNOWN", x.due(0), 1000);
        }
    }

    /** "TOLD WEIGHT times RATE times (1000 less OFF), by 1000 (cut; by longs)" */
    private static void dueByLongs() {
        int[][] bales = {{9999, 999, 0}, {9999, 999, 1}, {9999, 999, 999}, {9999, 999, 1000}, {9999, 0, 0}, {1, 1, 0},
            {1, 1, 1}, {1, 999, 1}, {2150, 999, 0}, {2147, 1000 - 1, 500}};
        for (int[] b : bales) {
            RagTown x = Town.withSorts(1);
            x.bale(0, 0, b[0], b[1]);
            Check.text(x, 0, 0, "d");
            x.look(0, 0, 0, 0, b[2]);
            Check.is("due of " + Arrays.toString(b), x.due(0), (long) b[0] * b[1] * (1000 - b[2]) / 1000);
        }
    }

    private static void numbersOfForetell() {
        Check.ends("SELLER", BalesEdgeTest::ofAllSellers, (x, v) -> x.foretell(v, -1, 0), 0, 3, -1);
        Check.ends("MARK", BalesEdgeTest::ofAllMarks, (x, v) -> x.foretell(1, v, 0), -1, 7, -1);
        Check.ends("SORT", Town::busy, (x, v) -> x.foretell(0, -1, v), 0, 4, -1);
        Check.refused("no BALE of a MARK", Town::busy, x -> x.foretell(0, 2, 0), -1);
        Check.refused("no BALE of a SELLER", Town::busy, x -> x.foretell(2, -1, 0), -1);
        Check.refused("none that is SORTED", Town::busy, x -> x.foretell(3, 0, 0), -1);
    }

    private static RagTown ofAllSellers() {
        RagTown x = Town.busy();
        for (int seller = 0; seller < 4; seller++) {
            x.open(x.bale(seller, 5, 10, 0), 0, 0, 5, 1, 0);
        }
        return x;
    }

    private static RagTown ofAllMarks() {
        RagTown x = Town.busy();
        for (int mark = 0; mark < 8; mark++) {
            x.open(x.bale(1, mark, 10, 0), 0, 0, 5, 1, 0);
        }
        return x;
    }

    /** "how much there was of a SORT and all within it, together, in 1000 of TOLD WEIGHT (cut)" */
    private static void foretold() {
        RagTown x = Town.busy();
        Check.is("all within 0", x.foretell(0, 3, 0), 1260 * 1000 / 2000);
        Check.row("all within 0", x, 630, 630, 1);
        Check.is("of 1 and 3", x.foretell(1, -1, 1), 920 * 1000 / 3000);
        Check.row("of 1 and 3", x, 306, 306, 1);
        x.fire(1000);
        Check.is("what there was", x.foretell(3, 7, 4), 168);
        Check.row("what there was", x, 168, 168, 1);
        RagTown few = Town.withSorts(3);
        few.bale(0, 0, 100, 0);
        few.sort(1, 1, 1, 1, 0, 0, 2);
        few.open(0, 0, 2, 0, 0, 0);
        Check.is("of a BALE without a LOT", few.foretell(0, 0, 2), 0);
        few.bale(0, 1, 1000, 0);
        few.open(1, 0, 1, 4, 0, 1);
        Check.is("of the last SORTS", few.foretell(0, 1, 2), 5);
        Check.row("of the last SORTS", few, 5, 5, 1);
        RagTown y = Town.withSorts(1);
        y.bale(0, 0, 9999, 0);
        y.bale(0, 7, 9999, 0);
        y.bale(0, 0, 1, 0);
        y.bale(0, 0, 1, 0);
        y.open(0, 0, 2, 1, 9, 0);
        Check.is("cut to nothing", y.foretell(0, -1, 0), 0);
        Check.row("cut to nothing", y, 0, 0, 1);
        y.open(1, 0, 2, 1, 9999, 0);
        Check.is("the least", y.foretell(0, -1, 0), 0);
        Check.row("the greatest", y, 0, 1000, 2);
        y.open(2, 0, 2, 0, 1, 0);
        Check.is("of no pounds", y.foretell(0, 0, 0), 0);
        Check.row("of MARK 0", y, 0, 0, 2);
        y.open(3, 0, 2, 1, 1, 0);
        Check.is("of all", y.foretell(0, -1, 0), 0);
        Check.row("of all", y, 0, 1000, 4);
    }

    /** "the least; the ROW: the least, the greatest, how many BALES", in whichever order they came */
    private static void leastAndGreatest() {
        int[][] orders = {{500, 200, 800, 300}, {200, 300, 500, 800}, {800, 500, 300, 200}, {300, 800, 200, 500}, {7, 7, 7, 7},
            {0, 1000, 0, 1000}, {1000, 0, 1000, 0}};
        for (int[] order : orders) {
            RagTown x = Town.withSorts(1);
            int least = 1000;
            int greatest = 0;
            for (int b = 0; b < 4; b++) {
                x.bale(1, b, 1000, 0);
                x.open(b, 0, 2, 1, order[b], 0);
                least = Math.min(least, order[b]);
                greatest = Math.max(greatest, order[b]);
                Check.is("of " + Arrays.toString(order) + " the first " + (b + 1), x.foretell(1, -1, 0), least);
                Check.row("of " + Arrays.toString(order), x, least, greatest, b + 1);
            }
        }
    }

    /** "Of SORTED BALES of a SELLER, with a MARK (or any: NONE)": of no other SELLER, with no other MARK */
    private static void ofASellerWithAMark() {
        RagTown x = Town.withSorts(1);
        for (int b = 0; b < 24; b++) {
            x.bale(b % 4, b / 4, 1000, 0);
            x.open(b, 0, 2, 1, 100 + b, 0);
        }
        for (int seller = 0; seller < 4; seller++) {
            Check.is("any MARK of " + seller, x.foretell(seller, -1, 0), 100 + seller);
            Check.row("any MARK of " + seller, x, 100 + seller, 120 + seller, 6);
            for (int mark = 0; mark < 6; mark++) {
                int only = 100 + 4 * mark + seller;
                Check.is("MARK " + mark + " of " + seller, x.foretell(seller, mark, 0), only);
                Check.row("MARK " + mark + " of " + seller, x, only, only, 1);
            }
            int had = x.row(0);
            Check.is("MARK 6 of " + seller, x.foretell(seller, 6, 0), -1);
            Check.row("the ROW stays", x, had, had, 1);
        }
    }
}
