/** Promises 22 to 29: part, judge, cost, mix, make, led, fault, suspects. */
final class BlendsTest {
    public static void main(String[] args) {
        parts();
        judged();
        costs();
        mixes();
        mixesRefused();
        cloth();
        faults();
        suspects();
        fewest();
        Check.finish();
    }

    private static RagTown withSorts(int n) {
        RagTown x = new RagTown();
        for (int i = 0; i < n; i++) {
            x.sort(10 * i, 1, 1, 1 + i, 0, 0, -1);
        }
        return x;
    }

    private static void parts() {
        RagTown x = withSorts(16);
        Check.is("part -1", x.part(-1, 1), -1);
        Check.is("part 16", x.part(16, 1), -1);
        Check.is("v -1", x.part(0, -1), -1);
        Check.is("v 13", x.part(0, 13), -1);
        for (int i = 0; i < 16; i++) {
            Check.is("part " + i, x.part(i, 12), 12 * (i + 1));
        }
        Check.is("PARTS in all", x.count(12), 192);
        Check.is("less again", x.part(3, 0), 180);
    }

    private static void judged() {
        RagTown x = withSorts(3);
        Check.is("no RECIPE", x.judge(0), -1);
        Check.text(x, 1, 0, "n>0;n>1;m<9");
        Check.is("no PARTS", x.judge(0), -1);
        x.part(0, 12);
        Check.is("one SORT", x.judge(0), 1);
        x.part(1, 2);
        Check.is("14 PARTS", x.judge(0), -1);
        x.part(0, 10);
        Check.is("too much of one", x.judge(0), 2);
        x.part(1, 4);
        x.part(0, 8);
        Check.is("it holds", x.judge(0), -2);
        Check.is("judge -1", x.judge(-1), -1);
        Check.is("judge 1", x.judge(1), -1);
    }

    private static void costs() {
        RagTown x = withSorts(2);
        x.price(0, 3, 999);
        x.price(1, 5, 10);
        Check.is("cost without PARTS", x.cost(0), -1);
        x.part(0, 12);
        Check.is("week 2", x.cost(2), 0);
        Check.is("week 3", x.cost(3), 12 * 999);
        x.part(0, 7);
        Check.is("7 PARTS", x.cost(3), -1);
        x.part(1, 5);
        Check.is("week 4", x.cost(4), 7 * 999);
        Check.is("week 99", x.cost(99), 7 * 999 + 50);
        Check.is("week 100", x.cost(100), -1);
        Check.is("week -1", x.cost(-1), -1);
    }

    private static int partOf(RagTown x, int sort) {
        // PARTS are told in all alone: what there are of one is how many fewer there are without it
        int all = x.count(12);
        int some = all - x.part(sort, 0);
        x.part(sort, some);
        return some;
    }

    private static void blendIs(String what, RagTown x, int... want) {
        for (int s = 0; s < want.length; s++) {
            Check.is(what + ", PARTS of " + s, partOf(x, s), want[s]);
        }
    }

    private static void mixes() {
        RagTown x = withSorts(4);
        x.price(0, 0, 7);
        x.price(1, 0, 5);
        x.price(2, 0, 5);
        x.price(3, 0, 9);
        Check.text(x, 1, 0, "1");
        Check.text(x, 1, 0, "n=3");
        Check.text(x, 1, 0, "n=4;m<5;r>17");
        Check.text(x, 1, 0, "0");
        x.part(3, 5);
        Check.is("none holds", x.mix(3, 15, 0, 0), -2);
        blendIs("none holds", x, 0, 0, 0, 5);
        Check.is("the cheapest", x.mix(0, 15, 0, 0), 60);
        blendIs("the first row of equal ones", x, 0, 0, 12, 0);
        Check.is("of three", x.mix(1, 15, 0, 0), 62);
        blendIs("of three", x, 1, 1, 10, 0);
        Check.is("of all", x.mix(2, 15, 0, 0), 7 + 15 + 20 + 36);
        blendIs("of all", x, 1, 3, 4, 4);
        Check.is("of one", x.mix(0, 8, 0, 0), 108);
        blendIs("of one", x, 0, 0, 0, 12);
        Check.is("one that would need three", x.mix(1, 8, 0, 0), -2);
        Check.is("with p and an empty STORE", x.mix(0, 15, 12, 0), -2);
        x.bale(0, 0, 9999, 0);
        x.open(0, 0, 2, 4, 100, 0);
        Check.is("108 pounds, 9 a PART", x.mix(0, 15, 108, 0), 60);
        blendIs("108 pounds", x, 0, 1, 11, 0);
        Check.is("300 pounds, 25 a PART", x.mix(0, 15, 300, 0), 4 * (7 + 5 + 5));
        blendIs("300 pounds", x, 4, 4, 4, 0);
        Check.is("396 pounds, 33 a PART", x.mix(0, 15, 396, 0), 3 * (7 + 5 + 5 + 9));
        Check.is("408 pounds, 34 a PART", x.mix(0, 15, 408, 0), -2);
        blendIs("396 pounds", x, 3, 3, 3, 3);
        x.price(0, 50, 1);
        Check.is("in week 50", x.mix(0, 15, 0, 50), 12);
        blendIs("in week 50", x, 12, 0, 0, 0);
        Check.is("in week 49", x.mix(0, 15, 0, 49), 60);
    }

    private static void mixesRefused() {
        RagTown x = withSorts(7);
        Check.is("no RECIPE", x.mix(0, 1, 0, 0), -1);
        Check.text(x, 1, 0, "1");
        x.part(2, 7);
        Check.is("recipe -1", x.mix(-1, 1, 0, 0), -1);
        Check.is("recipe 1", x.mix(1, 1, 0, 0), -1);
        Check.is("no bits", x.mix(0, 0, 0, 0), -1);
        Check.is("bits below 0", x.mix(0, Integer.MIN_VALUE, 0, 0), -1);
        Check.is("bits -1", x.mix(0, -1, 0, 0), -1);
        Check.is("7 of them", x.mix(0, 127, 0, 0), -1);
        Check.is("no such SORT", x.mix(0, 129, 0, 0), -1);
        Check.is("p -12", x.mix(0, 1, -12, 0), -1);
        Check.is("p 6", x.mix(0, 1, 6, 0), -1);
        Check.is("p 10008", x.mix(0, 1, 10008, 0), -1);
        Check.is("week -1", x.mix(0, 1, 0, -1), -1);
        Check.is("week 100", x.mix(0, 1, 0, 100), -1);
        blendIs("refused", x, 0, 0, 7, 0, 0, 0, 0);
        Check.is("p 9996 of an empty STORE", x.mix(0, 1, 9996, 99), -2);
        Check.is("6 of them", x.mix(0, 126, 0, 0), 0);
        blendIs("6 of them", x, 0, 0, 0, 0, 0, 0, 12);
        RagTown y = withSorts(16);
        Check.text(y, 1, 0, "n=6;m=2");
        Check.is("the last 6 of 16", y.mix(0, 0xfc00, 0, 0), 0);
        blendIs("the last 6 of 16", y, 0, 0, 0, 0, 0, 0, 0, 0, 0, 0, 2, 2, 2, 2, 2, 2);
    }

    private static void cloth() {
        RagTown x = withSorts(2);
        x.bale(0, 0, 9999, 0);
        x.bale(0, 0, 9999, 0);
        x.bale(0, 0, 9999, 0);
        x.open(1, 0, 2, 2, 100, 100);
        x.open(0, 0, 2, 2, 50, 50);
        x.part(0, 6);
        Check.is("6 PARTS", x.make(12), -1);
        x.part(1, 6);
        Check.is("p 0", x.make(0), -1);
        Check.is("p 13", x.make(13), -1);
        Check.is("p -12", x.make(-12), -1);
        Check.is("p 10008", x.make(10008), -1);
        Check.is("p 9996, too much", x.make(9996), -1);
        Check.is("p 312, too much of one", x.make(312), -1);
        Check.is("nothing TAKEN", x.store(0, 0), 150);
        Check.is("no CLOTH", x.count(6), 0);
        Check.is("led of none", x.led(0), -1);
        Check.is("p 240", x.make(240), 0);
        Check.is("led", x.led(0), 2);
        Check.row("led", x, 0, 20, 1, 220);
        Check.is("led 1", x.led(1), -1);
        Check.is("led -1", x.led(-1), -1);
        Check.row("refused led", x, 0, 20, 1, 220);
        Check.is("in all CLOTH", x.of(1, 4), 220);
        Check.is("in the STORE", x.store(1, 0), 180);
        Check.is("a second", x.make(12), 1);
        Check.is("its BALES", x.led(1), 2);
        Check.row("its BALES", x, 0, 6, 1, 6);
        Check.is("the third BALE", x.open(2, 0, 2, 2, 4000, 0), 1999);
        for (int i = 2; i < 20; i++) {
            Check.is("make " + i, x.make(12), i);
        }
        Check.is("the 21st", x.make(12), -1);
        Check.is("20 CLOTHS", x.count(6), 20);
        Check.is("pounds in CLOTH", x.of(0, 4) + x.of(1, 4) + x.of(2, 4), 240 + 19 * 12);
        RagTown y = withSorts(1);
        y.bale(0, 0, 9999, 0);
        y.open(0, 0, 2, 1, 9996, 0);
        y.part(0, 12);
        Check.is("most pounds", y.make(9996), 0);
        Check.is("none left", y.store(0, 0), 0);
    }

    private static void faults() {
        RagTown x = withSorts(1);
        x.bale(0, 0, 100, 0);
        x.open(0, 0, 0, 1, 100, 0);
        x.part(0, 12);
        Check.is("fault of none", x.fault(0, 0), -1);
        x.make(12);
        Check.is("not judged as yet", x.fault(0, 2), 2);
        Check.is("to GOOD", x.fault(0, 0), 2);
        Check.is("to BAD", x.fault(0, 1), 0);
        Check.is("v 3", x.fault(0, 3), -1);
        Check.is("v -1", x.fault(0, -1), -1);
        Check.is("cloth 1", x.fault(1, 0), -1);
        Check.is("cloth -1", x.fault(-1, 0), -1);
        Check.is("back again", x.fault(0, 2), 1);
    }

    private static void suspects() {
        RagTown x = withSorts(16);
        for (int b = 0; b < 6; b++) {
            x.bale(0, 0, 1200, 0);
        }
        Check.is("open 0", x.open(0, 0, 1, 1, 1200, 0), 0);
        Check.is("open 1", x.open(1, 0, 1, 2, 0, 1200), 0);
        Check.is("open 2", x.open(2, 0, 1, 3, 0, 400), 0);
        Check.is("open 3", x.open(3, 0, 1, 4, 0, 200), 0);
        Check.row("new", x);
        Check.is("no CLOTH", x.suspects(), 0);
        blend(x, 0, 12);
        x.make(12);
        blend(x, 2, 12);
        x.make(12);
        blend(x, 3, 12);
        x.make(12);
        Check.is("led 1", x.led(1), 1);
        Check.row("led 1", x, 2, 12);
        Check.is("none BAD", x.suspects(), 0);
        Check.row("none BAD", x);
        x.fault(0, 1);
        Check.is("one BAD", x.suspects(), 1);
        Check.row("one BAD", x, 0);
        x.fault(1, 1);
        x.fault(2, 1);
        Check.is("three BAD", x.suspects(), 3);
        Check.row("three BAD", x, 0, 2, 3);
        blend(x, 2, 12);
        x.make(504);
        x.make(288);
        x.led(4);
        Check.row("of BALE 2 alone", x, 2, 284, 3, 4);
        x.fault(4, 0);
        Check.is("cleared by a GOOD one", x.suspects(), -2);
        Check.row("-2 leaves the ROW", x, 2, 284, 3, 4);
        x.fault(4, 2);
        Check.is("cleared no more", x.suspects(), 3);
    }

    /** Of as many the first row; more than 4 are too many. */
    private static void fewest() {
        RagTown x = withSorts(5);
        for (int s = 0; s < 5; s++) {
            for (int k = 0; k < 2; k++) {
                int b = x.bale(0, 0, 1000, 0);
                x.open(b, 0, 2, s + 1, s == 0 ? 6 : 0, 0);
            }
        }
        Check.is("LOTS of SORT 0", x.count(5), 2);
        blend(x, 0, 12);
        Check.is("of two BALES", x.make(12), 0);
        Check.is("led", x.led(0), 2);
        x.fault(0, 1);
        Check.is("either would do", x.suspects(), 1);
        Check.row("the first of equal ones", x, 0);

        RagTown y = withSorts(1);
        blend(y, 0, 12);
        for (int i = 0; i < 5; i++) {
            y.bale(0, 0, 12, 0);
            y.open(i, 0, 0, 1, 12, 0);
            y.make(12);
            y.fault(i, i < 4 ? 1 : 2);
        }
        Check.is("4 are needed", y.suspects(), 4);
        Check.row("4 are needed", y, 0, 1, 2, 3);
        y.fault(4, 1);
        Check.is("5 would be needed", y.suspects(), -2);
        Check.row("the ROW stays", y, 0, 1, 2, 3);
        y.fault(0, 0);
        Check.is("4 others", y.suspects(), 4);
        Check.row("4 others", y, 1, 2, 3, 4);
    }

    private static void blend(RagTown x, int sort, int parts) {
        for (int s = 0; s < x.count(0); s++) {
            x.part(s, s == sort ? parts : 0);
        }
    }
}
