/** Promises 6 to 12 and 30: bale, open, of, look, as, off, due, foretell. */
final class BalesTest {
    public static void main(String[] args) {
        bales();
        sheets();
        refusedSheets();
        whatIsOfABale();
        looks();
        contracts();
        dues();
        foretold();
        Check.finish();
    }

    private static RagTown withSorts(int n) {
        RagTown x = new RagTown();
        for (int i = 0; i < n; i++) {
            x.sort(1, 1, 1, 1, 0, i == 0 ? 0 : 10, -1);
        }
        return x;
    }

    private static void bales() {
        RagTown x = new RagTown();
        Check.is("seller -1", x.bale(-1, 0, 1, 0), -1);
        Check.is("seller 4", x.bale(4, 0, 1, 0), -1);
        Check.is("mark -1", x.bale(0, -1, 1, 0), -1);
        Check.is("mark 8", x.bale(0, 8, 1, 0), -1);
        Check.is("weight 0", x.bale(0, 0, 0, 0), -1);
        Check.is("weight 10000", x.bale(0, 0, 10000, 0), -1);
        Check.is("rate -1", x.bale(0, 0, 1, -1), -1);
        Check.is("rate 1000", x.bale(0, 0, 1, 1000), -1);
        Check.is("no BALE", x.count(2), 0);
        Check.is("least", x.bale(0, 0, 1, 0), 0);
        Check.is("most", x.bale(3, 7, 9999, 999), 1);
        for (int i = 2; i < 24; i++) {
            Check.is("bale " + i, x.bale(0, 0, 1, 0), i);
        }
        Check.is("the 25th", x.bale(0, 0, 1, 0), -1);
        Check.is("24 BALES", x.count(2), 24);
        Check.is("due of the most", x.due(1), 9999 * 999);
    }

    private static void sheets() {
        RagTown x = withSorts(3);
        for (int i = 0; i < 8; i++) {
            x.bale(0, 0, 9999, 0);
        }
        Check.is("bytes wrap", x.open(0, 0, 0, 3, 250, 6), -4);
        Check.is("bytes' lowest bits", x.open(0, 0, 0, 3, 256, 257), 9999 - 0 - 1 - 2);
        Check.is("LOTS of pounds above 0", x.count(5), 2);
        Check.is("shorts keep 250", x.open(1, 1, 1, 3, 250, 6), 9999 - 250 - 256 - 262);
        Check.is("shorts' lowest bits", x.open(2, 2, 1, 2, 65536 + 5, 65536), 9999 - 10);
        Check.is("a short below 0", x.open(3, 3, 1, 1, 32768, 0), -4);
        Check.is("ints all of it", x.open(3, 3, 2, 3, 3333, 0), 0);
        Check.is("ints that wrap round to 1", x.open(4, 4, 2, 2, Integer.MAX_VALUE, 3), -4);
        Check.is("a sum that fits no int", x.open(4, 4, 2, 3, 1431655765, 0), -4);
        Check.is("steps that wrap", x.open(4, 4, 2, 3, 5, Integer.MIN_VALUE), -4);
        Check.is("bytes of such steps", x.open(4, 4, 0, 3, 5, Integer.MIN_VALUE), 9999 - 15);
        Check.is("n 0", x.open(5, 5, 0, 0, 77, 1), 9999);
        Check.is("SORTED with no pounds", x.of(5, 1), 9999);
        Check.is("one pound too many", x.open(6, 0, 2, 2, 5000, 0), -4);
        Check.is("a step down", x.open(6, 0, 2, 3, 20, -10), 9999 - 30);
        Check.is("a step below 0", x.open(7, 0, 2, 3, 20, -11), -4);
        Check.is("sort 2 of all", x.store(2, 0), 2 + 262 + 3333 + 5);
    }

    private static void refusedSheets() {
        RagTown x = withSorts(2);
        x.bale(0, 0, 10, 0);
        Check.is("no BALE", x.open(1, 0, 0, 0, 0, 0), -1);
        Check.is("BALE -1", x.open(-1, 0, 0, 0, 0, 0), -1);
        Check.is("sorter -1", x.open(0, -1, 0, 0, 0, 0), -1);
        Check.is("sorter 6", x.open(0, 6, 0, 0, 0, 0), -1);
        Check.is("kind -1", x.open(0, 0, -1, 0, 0, 0), -1);
        Check.is("kind 4", x.open(0, 0, 4, 0, 0, 0), -1);
        Check.is("n above", x.open(0, 0, 0, 3, 0, 0), -1);
        Check.is("n above of a missing one", x.open(0, 0, 3, 3, 0, 0), -1);
        Check.is("n above, pounds too many", x.open(0, 0, 2, 3, 100, 0), -1);
        Check.is("n below 0", x.open(0, 0, 2, -1, 100, 0), -2);
        Check.is("n below 0 of a missing one", x.open(0, 0, 3, -1, 0, 0), -3);
        Check.is("missing", x.open(0, 0, 3, 1, 100, 0), -3);
        Check.is("none SORTED it", x.of(0, 2), -1);
        Check.is("no LOT", x.count(5), 0);
        Check.is("SORTED at last", x.open(0, 0, 0, 1, 10, 0), 0);
        Check.is("SORTED already", x.open(0, 0, 3, 1, 0, 0), -1);
        Check.is("SORTED already, n below 0", x.open(0, 0, 0, -1, 0, 0), -1);
    }

    private static void whatIsOfABale() {
        RagTown x = withSorts(2);
        x.bale(0, 0, 500, 9);
        int[] before = {500, -1, -1, 0, 0, 0, -1};
        for (int what = 0; what < 7; what++) {
            Check.is("of before " + what, x.of(0, what), before[what]);
        }
        Check.is("of -1", x.of(0, -1), -1);
        Check.is("of no BALE", x.of(1, 0), -1);
        Check.is("of BALE -1", x.of(-1, 0), -1);
        x.open(0, 4, 2, 2, 200, 50);
        x.wipe(0, 10, 0);
        x.pack(1, 20, 0, 5);
        x.part(0, 12);
        x.make(24);
        int[] after = {500, 50, 4, 450 - 10 - 25 - 24, 24, 35, -1};
        for (int what = 0; what < 7; what++) {
            Check.is("of after " + what, x.of(0, what), after[what]);
        }
        x.moth(0);
        Check.is("of after moths 3", x.of(0, 3), 0);
        Check.is("of after moths 5", x.of(0, 5), 450 - 24);
    }

    private static void looks() {
        RagTown x = withSorts(1);
        x.bale(2, 0, 100, 10);
        Check.text(x, 0, 2, "l");
        Check.is("look bale", x.look(1, 0, 0, 0, 0), -1);
        Check.is("look bale -1", x.look(-1, 0, 0, 0, 0), -1);
        Check.is("look side -1", x.look(0, -1, 0, 0, 0), -1);
        Check.is("look side 2", x.look(0, 2, 0, 0, 0), -1);
        Check.is("look day -1", x.look(0, 0, -1, 0, 0), -1);
        Check.is("look day 100", x.look(0, 0, 100, 0, 0), -1);
        Check.is("look weight -1", x.look(0, 0, 0, -1, 0), -1);
        Check.is("look weight 10000", x.look(0, 0, 0, 10000, 0), -1);
        Check.is("look damp -1", x.look(0, 0, 0, 0, -1), -1);
        Check.is("look damp 1001", x.look(0, 0, 0, 0, 1001), -1);
        Check.is("no LOOK", x.count(3), 0);
        Check.is("off without a LOOK", x.off(0, 0), -1);
        Check.is("look on 50", x.look(0, 0, 50, 90, 0), 1);
        Check.is("look on 20", x.look(0, 0, 20, 80, 0), 2);
        Check.is("as 19", x.as(19), 99);
        Check.is("off as of 19", x.off(0, 0), -1);
        Check.is("as 20", x.as(20), 19);
        Check.is("off as of 20", x.off(0, 0), 200);
        Check.is("as 49", x.as(49), 20);
        Check.is("off as of 49", x.off(0, 0), 200);
        Check.is("as 50", x.as(50), 49);
        Check.is("off as of 50", x.off(0, 0), 100);
        Check.is("the other side", x.off(0, 1), -1);
        Check.is("off side 2", x.off(0, 2), -1);
        Check.is("off side -1", x.off(0, -1), -1);
        Check.is("off bale 1", x.off(1, 0), -1);
        Check.is("as -1", x.as(-1), -1);
        Check.is("as 100", x.as(100), -1);
        Check.is("AS stays", x.count(11), 50);
        for (int i = 3; i <= 60; i++) {
            Check.is("look " + i, x.look(0, 0, 50, 70, 0), i);
        }
        Check.is("the 61st", x.look(0, 0, 50, 0, 0), -1);
        Check.is("the last of the DAY holds", x.off(0, 0), 300);
        x.as(0);
        Check.is("AS 0", x.count(11), 0);
    }

    private static int offWith(String contract) {
        RagTown x = withSorts(2);
        x.bale(1, 5, 300, 10);
        x.open(0, 0, 2, 2, 100, 50);
        x.look(0, 0, 0, 250, 101);
        Check.is("contract " + contract, Check.text(x, 0, 1, contract), 0);
        return x.off(0, 0);
    }

    private static void contracts() {
        Check.is("at first", new RagTown().off(0, 0), -1);
        Check.is("l", offWith("l"), (300 - 224) * 1000 / 300);
        Check.is("d", offWith("d"), 101);
        Check.is("k", offWith("k"), 50 * 1000 / 300);
        Check.is("o", offWith("o"), 100 * 1000 / 300);
        Check.is("q", offWith("q"), 5);
        Check.is("letters of other kinds", offWith("r+g+b+s+w+v+n+m+p+z+e"), 0);
        Check.is("1000 most", offWith("1001"), 1000);
        Check.is("0 least", offWith("-1"), 0);
        RagTown x = withSorts(1);
        x.bale(0, 0, 100, 10);
        x.bale(1, 0, 100, 10);
        x.look(0, 0, 0, 200, 0);
        x.look(1, 0, 0, 0, 0);
        Check.is("without a CONTRACT", x.off(0, 0), 0);
        Check.text(x, 0, 0, "l+k+o");
        Check.is("none heavier, none SORTED", x.off(0, 0), 0);
        Check.is("another SELLER", x.off(1, 0), 0);
        Check.text(x, 0, 1, "l");
        Check.is("all dry", x.off(1, 0), 1000);
        dryPounds();
        Check.is("not this one", Check.text(x, 0, 1, "l+"), -3);
        Check.is("the CONTRACT stays", x.off(1, 0), 1000);
    }

    private static void dryPounds() {
        RagTown x = withSorts(1);
        x.bale(3, 0, 1000, 10);
        Check.text(x, 0, 3, "l");
        Check.is("the most weight, the most damp", x.look(0, 0, 0, 9999, 1000), 1);
        Check.is("no DRY pound", x.off(0, 0), 1000);
        x.look(0, 0, 0, 1998, 500);
        Check.is("999 DRY pounds", x.off(0, 0), 1);
        x.look(0, 0, 0, 1999, 500);
        Check.is("999 and a half, cut", x.off(0, 0), 1);
        x.look(0, 0, 0, 9999, 0);
        Check.is("far too heavy", x.off(0, 0), 0);
    }

    private static void dues() {
        RagTown x = withSorts(1);
        x.bale(0, 0, 9999, 999);
        Check.is("due without LOOKS", x.due(0), 9999 * 999);
        Check.text(x, 0, 0, "d");
        x.look(0, 1, 10, 0, 3);
        Check.is("due by the SELLER's", x.due(0), (int) (9999L * 999 * 997 / 1000));
        x.look(0, 0, 20, 0, 6);
        Check.is("due by both", x.due(0), (int) (9999L * 999 * 996 / 1000));
        x.as(15);
        Check.is("due as of 15", x.due(0), (int) (9999L * 999 * 997 / 1000));
        x.as(9);
        Check.is("due as of 9", x.due(0), 9999 * 999);
        x.as(99);
        x.look(0, 0, 20, 0, 1000);
        x.look(0, 1, 20, 0, 1000);
        Check.is("due nothing", x.due(0), 0);
        Check.is("due -1", x.due(-1), -1);
        Check.is("due 1", x.due(1), -1);
    }

    private static void foretold() {
        RagTown x = new RagTown();
        x.sort(1, 1, 1, 1, 0, 0, -1);
        x.sort(1, 1, 1, 1, 0, 0, 0);
        x.sort(1, 1, 1, 1, 0, 0, 1);
        int[][] bales = {{2, 1, 300}, {2, 1, 700}, {2, 3, 300}, {1, 1, 300}, {2, 1, 1}};
        for (int i = 0; i < 5; i++) {
            x.bale(bales[i][0], bales[i][1], bales[i][2], 1);
        }
        Check.is("none SORTED", x.foretell(2, -1, 0), -1);
        Check.row("none yet", x);
        for (int i = 0; i < 4; i++) {
            x.open(i, 0, 2, 3, 100 - 30 * i, 0);
        }
        Check.is("any MARK", x.foretell(2, -1, 0), 210 * 1000 / 700);
        Check.row("any MARK", x, 300, 1000, 3);
        Check.is("MARK 1", x.foretell(2, 1, 0), 300);
        Check.row("MARK 1", x, 300, 1000, 2);
        Check.is("a part", x.foretell(2, 1, 1), 200);
        Check.row("a part", x, 200, 666, 2);
        Check.is("the least part", x.foretell(1, 1, 2), 10 * 1000 / 300);
        Check.row("the least part", x, 33, 33, 1);
        Check.is("no such BALE", x.foretell(1, 2, 0), -1);
        Check.is("seller -1", x.foretell(-1, -1, 0), -1);
        Check.is("seller 4", x.foretell(4, -1, 0), -1);
        Check.is("mark -2", x.foretell(2, -2, 0), -1);
        Check.is("mark 8", x.foretell(2, 8, 0), -1);
        Check.is("sort 3", x.foretell(2, 1, 3), -1);
        Check.row("refused ones leave the ROW", x, 33, 33, 1);
    }
}
