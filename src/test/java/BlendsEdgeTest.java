import java.util.Arrays;

/** Promises 22 to 29 and what "Terms" say of BLENDS, CLOTH and SUSPECTS, sentence by sentence. */
final class BlendsEdgeTest {
    public static void main(String[] args) {
        numbersOfPart();
        partsInAll();
        numbersOfJudge();
        twelveInAll();
        firstNotHeld();
        numbersOfCost();
        twelvePounds();
        numbersOfMix();
        oneToSixOfThem();
        multiplesOfTwelve();
        canBeMade();
        firstRowOfParts();
        costsLeast();
        blendBecomes();
        noneToMix();
        numbersOfMake();
        partsForMake();
        storeHasNotSoMuch();
        storeHasNothing();
        twentyCloths();
        numbersOfLed();
        balesAscending();
        numbersOfFault();
        noneIsBad();
        noSuspects();
        moreThanFour();
        fewest();
        firstRowOfSuspects();
        onePound();
        Check.finish();
    }

    private static void numbersOfPart() {
        Check.ends("SORT", Town::busy, (x, v) -> x.part(v, 3), 0, 4, -1);
        Check.ends("PARTS", Town::busy, (x, v) -> x.part(1, v), 0, 12, -1);
    }

    /** "PARTS of a SORT in THE BLEND become v (0 .. 12): PARTS in all." */
    private static void partsInAll() {
        RagTown x = Town.withSorts(16);
        Check.is("none", x.part(7, 0), 0);
        Check.is("12", x.part(7, 12), 12);
        Check.is("become, not more", x.part(7, 5), 5);
        Check.is("of another", x.part(15, 12), 17);
        Check.is("a refused one", x.part(15, 13), -1);
        Check.is("PARTS still", x.count(12), 17);
        for (int s = 0; s < 16; s++) {
            x.part(s, 12);
        }
        Check.is("all there can be", x.count(12), 192);
        for (int s = 0; s < 16; s++) {
            Check.is("less " + s, x.part(s, 0), 192 - 12 * (s + 1));
        }
    }

    private static void numbersOfJudge() {
        Check.ends("RECIPE", Town::busy, RagTown::judge, 0, 1, -1);
        RagTown x = Town.busy();
        for (int r = 2; r < 6; r++) {
            Check.text(x, 1, 0, "0");
        }
        Check.is("the last of six", x.judge(5), 0);
        Check.is("none behind it", x.judge(6), -1);
    }

    /** "NONE: .. PARTS are not 12 in all." */
    private static void twelveInAll() {
        for (int v : new int[] {0, 1, 3, 5, 6, 12}) {
            Check.Maker town = () -> {
                RagTown x = Town.busy();
                x.part(4, v);
                return x;
            };
            Check.is("PARTS", town.make().count(12), 8 + v);
            Check.refused("judge of " + (8 + v), town, x -> x.judge(0), -1);
            Check.refused("cost of " + (8 + v), town, x -> x.cost(60), -1);
            Check.refused("make of " + (8 + v), town, x -> x.make(12), -1);
        }
        RagTown none = Town.withSorts(2);
        Check.text(none, 1, 0, "1");
        Check.is("no PARTS, judge", none.judge(0), -1);
        Check.is("no PARTS, cost", none.cost(0), -1);
        none.part(1, 12);
        Check.is("12 PARTS, judge", none.judge(0), -2);
        Check.is("12 PARTS, cost", none.cost(0), 0);
        none.part(0, 12);
        Check.is("24 PARTS, judge", none.judge(0), -1);
        Check.is("24 PARTS, cost", none.cost(0), -1);
    }

    /** "The first EXPRESSION (0 ..) of a RECIPE that THE BLEND does not hold; -2: it holds all." */
    private static void firstNotHeld() {
        for (int place = 0; place <= 29; place++) {
            StringBuilder text = new StringBuilder("1" + ";1".repeat(29));
            text.setCharAt(2 * place, '0');
            RagTown x = Town.withSorts(1);
            x.part(0, 12);
            Check.is("RECIPE", Check.text(x, 1, 0, text.toString()), 0);
            Check.is("the first that is 0", x.judge(0), place);
            text.setCharAt(58, '0');
            Check.text(x, 1, 0, text.toString());
            Check.is("the first of two", x.judge(1), place);
        }
        Check.refused("it holds all", Town::busy, x -> x.judge(0), -2);
    }

    private static void numbersOfCost() {
        Check.ends("WEEK", Town::busy, RagTown::cost, 0, 99, -1);
    }

    /** "Pence for THE BLEND's 12 pounds in a WEEK." */
    private static void twelvePounds() {
        RagTown x = Town.withSorts(16);
        for (int s = 0; s < 16; s++) {
            x.price(s, s, 900 + s);
        }
        x.part(15, 12);
        Check.is("a WEEK too early", x.cost(14), 0);
        Check.is("its WEEK", x.cost(15), 12 * 915);
        x.part(15, 1);
        x.part(0, 11);
        Check.is("of two", x.cost(15), 11 * 900 + 915);
        Check.is("of one", x.cost(14), 11 * 900);
        x.price(0, 0, 999);
        x.price(15, 99, 999);
        Check.is("the most", x.cost(99), 12 * 999);
    }

    private static int[] partsOf(RagTown x, int many) {
        int[] parts = new int[many];
        for (int s = 0; s < many; s++) {
            int all = x.count(12);
            parts[s] = all - x.part(s, 0);
            x.part(s, parts[s]);
        }
        return parts;
    }

    private static void blendIs(String what, RagTown x, int... want) {
        int[] got = partsOf(x, want.length);
        for (int s = 0; s < want.length; s++) {
            Check.is(what + ": PARTS of " + s + " in " + Arrays.toString(got), got[s], want[s]);
        }
    }

    /** "NONE: others." */
    private static void numbersOfMix() {
        Check.ends("RECIPE", BlendsEdgeTest::mixable, (x, v) -> x.mix(v, 31, 0, 0), 0, 1, -1);
        Check.ends("WEEK", BlendsEdgeTest::mixable, (x, v) -> x.mix(0, 31, 0, v), 0, 99, -1);
        Check.ends("bits", BlendsEdgeTest::mixable, (x, v) -> x.mix(0, v, 0, 0), 1, 31, -1);
        Check.ends("p", BlendsEdgeTest::mixable, (x, v) -> x.mix(0, 31, v, 0), 0, 9996, -1);
        Check.refused("p below 0", BlendsEdgeTest::mixable, x -> x.mix(0, 31, -12, 0), -1);
        Check.refused("p above", BlendsEdgeTest::mixable, x -> x.mix(0, 31, 10008, 0), -1);
    }

    /** A busy town in which every BLEND of 12 PARTS holds both RECIPES; the STORE has 9996 pounds of SORT 0. */
    private static RagTown mixable() {
        RagTown x = new RagTown();
        for (int s = 0; s < 5; s++) {
            x.sort(1, 1, 1, 1, 0, 0, -1);
            x.price(s, 0, 1 + s);
        }
        Check.text(x, 1, 0, "1");
        Check.text(x, 1, 0, "m");
        x.part(2, 5);
        for (int b = 0; b < 4; b++) {
            x.bale(0, 0, 9999, 0);
        }
        x.open(0, 0, 2, 5, 1996, -1);
        x.open(1, 0, 2, 1, 8000, 0);
        x.ring(4);
        return x;
    }

    /** "of SORTS by bits (1 .. 6 of them)" */
    private static void oneToSixOfThem() {
        Check.Maker town = () -> {
            RagTown x = Town.withSorts(16);
            Check.text(x, 1, 0, "1");
            Check.text(x, 1, 0, "n=6");
            x.part(3, 7);
            return x;
        };
        for (int s = 0; s < 16; s++) {
            RagTown x = town.make();
            int[] want = new int[16];
            want[s] = 12;
            Check.is("SORT " + s + " alone", x.mix(0, 1 << s, 0, 0), 0);
            blendIs("SORT " + s + " alone", x, want);
            int six = s <= 10 ? 63 << s : 63 << s & 0xffff | 63 >> 16 - s;
            RagTown y = town.make();
            Check.is("six of them", y.mix(1, six, 0, 0), 0);
            int[] parts = partsOf(y, 16);
            for (int t = 0; t < 16; t++) {
                Check.yes("of them alone", parts[t] > 0 == ((six >> t & 1) == 1));
            }
            int seven = six | 1 << (s + 6) % 16;
            Check.refused("seven of them", town, z -> z.mix(0, seven, 0, 0), -1);
        }
        Check.refused("none of them", town, x -> x.mix(0, 0, 0, 0), -1);
        Check.refused("all of them", town, x -> x.mix(0, 0xffff, 0, 0), -1);
        int[] no = {1 << 16, 1 << 16 | 1, 1 << 30, 1 << 31, 1 << 31 | 1, -1};
        for (int bits : no) {
            Check.refused("no such SORT in " + bits, town, x -> x.mix(0, bits, 0, 0), -1);
        }
        for (int n = 1; n < 16; n++) {
            RagTown x = Town.withSorts(n);
            Check.text(x, 1, 0, "1");
            Check.is("the last of " + n, x.mix(0, 1 << n - 1, 0, 0), 0);
            Check.is("behind the last of " + n, x.mix(0, 1 << n, 0, 0), -1);
            Check.is("the last and one behind it", x.mix(0, 3 << n - 1, 0, 0), -1);
        }
    }

    /** "p pounds (a multiple of 12, 0 .. 9996)" */
    private static void multiplesOfTwelve() {
        for (int p = -13; p <= 25; p++) {
            int pounds = p;
            if (p == 0 || p == 12 || p == 24) {
                Check.is("p " + p, mixable().mix(0, 31, p, 0), 12);
            } else {
                Check.refused("p " + p, BlendsEdgeTest::mixable, x -> x.mix(0, 31, pounds, 0), -1);
            }
        }
        for (int p = 9985; p <= 10009; p++) {
            Check.is("p " + p, mixable().mix(0, 31, p, 0), p == 9996 ? 12 : -1);
        }
    }

    /** "can be made into p pounds .. of the STORE" */
    private static void canBeMade() {
        int[] stores = {120, 119, 121, 11, 10, 9, 0, 60, 59};
        int[] most = {12, 11, 12, 1, 1, 0, 0, 6, 5};
        for (int i = 0; i < stores.length; i++) {
            RagTown x = new RagTown();
            x.sort(1, 1, 1, 1, 0, 0, -1);
            x.sort(1, 1, 1, 1, 0, 0, -1);
            x.price(1, 0, 5);
            Check.text(x, 1, 0, "1");
            x.bale(0, 0, 9999, 0);
            x.open(0, 0, 2, 2, stores[i], 500 - stores[i]);
            Check.is(stores[i] + " pounds, 10 a PART", x.mix(0, 3, 120, 0), (12 - most[i]) * 5);
            blendIs(stores[i] + " pounds", x, most[i], 12 - most[i]);
            Check.is("it can be made", x.make(120), 0);
            Check.is("p 0 asks for none", x.mix(0, 1, 0, 0), 0);
            Check.is("the STORE is as it was", x.store(0, 0), stores[i] - most[i] * 10);
        }
        RagTown x = new RagTown();
        x.sort(1, 1, 1, 1, 0, 0, -1);
        Check.text(x, 1, 0, "1");
        Check.is("p 0 of an empty STORE", x.mix(0, 1, 0, 0), 0);
        Check.is("p 12 of an empty STORE", x.mix(0, 1, 12, 0), -2);
        x.bale(0, 0, 9999, 0);
        x.open(0, 0, 2, 1, 9995, 0);
        Check.is("p 9996 of 9995", x.mix(0, 1, 9996, 0), -2);
        Check.is("p 9984 of 9995", x.mix(0, 1, 9984, 0), 0);
    }

    /** "of equal ones the first row of PARTS" */
    private static void firstRowOfParts() {
        String[] recipes = {"1", "m<12", "n=3", "n=6", "n=2&m=6", "m<3", "n=6&m=7", "n>4&m<4"};
        int[][] want = {{0, 0, 0, 0, 0, 12}, {0, 0, 0, 0, 1, 11}, {0, 0, 0, 1, 1, 10}, {1, 1, 1, 1, 1, 7}, {0, 0, 0, 0, 6, 6},
            {2, 2, 2, 2, 2, 2}, {1, 1, 1, 1, 1, 7}, {0, 1, 2, 3, 3, 3}};
        for (int i = 0; i < recipes.length; i++) {
            RagTown x = Town.withSorts(6);
            for (int s = 0; s < 6; s++) {
                x.price(s, 0, 4);
            }
            Check.text(x, 1, 0, recipes[i]);
            Check.is("mix " + recipes[i], x.mix(0, 63, 0, 0), 48);
            blendIs("the first of " + recipes[i], x, want[i]);
        }
        RagTown x = Town.withSorts(4);
        Check.text(x, 1, 0, "n=2");
        Check.is("of 0, 1, 3", x.mix(0, 11, 0, 0), 0);
        blendIs("of 0, 1, 3", x, 0, 1, 0, 11);
    }

    /** "costs least in a WEEK" */
    private static void costsLeast() {
        for (int cheap = 0; cheap < 6; cheap++) {
            RagTown x = Town.withSorts(6);
            for (int s = 0; s < 6; s++) {
                x.price(s, 10, s == cheap ? 998 : 999);
                x.price(s, 50, s == cheap ? 999 : 998 - s);
            }
            Check.text(x, 1, 0, "1");
            Check.text(x, 1, 0, "n=6");
            int[] want = new int[6];
            want[cheap] = 12;
            Check.is("all of the cheapest", x.mix(0, 63, 0, 10), 12 * 998);
            blendIs("all of " + cheap, x, want);
            Check.is("in WEEK 49", x.mix(1, 63, 0, 49), 7 * 998 + 5 * 999);
            Arrays.fill(want, 1);
            want[cheap] = 7;
            blendIs("most of " + cheap, x, want);
            Check.is("in WEEK 50", x.mix(0, 63, 0, 50), cheap == 5 ? 12 * 994 : 12 * 993);
            Check.is("in WEEK 9", x.mix(0, 63, 0, 9), 0);
            blendIs("the first row of equal ones", x, 0, 0, 0, 0, 0, 12);
        }
        RagTown x = Town.withSorts(1);
        x.price(0, 0, 999);
        Check.text(x, 1, 0, "1");
        Check.is("the most", x.mix(0, 1, 0, 99), 12 * 999);
    }

    /** "THE BLEND becomes the one ..": nothing of others stays in it */
    private static void blendBecomes() {
        RagTown x = Town.withSorts(5);
        Check.text(x, 1, 0, "n=2");
        for (int s = 0; s < 5; s++) {
            x.part(s, 12);
        }
        Check.is("of 1 and 3", x.mix(0, 10, 0, 0), 0);
        blendIs("of 1 and 3", x, 0, 1, 0, 11, 0);
        Check.is("PARTS in all", x.count(12), 12);
        Check.is("it holds", x.judge(0), -2);
    }

    /** "-2: there is none (THE BLEND stays)" */
    private static void noneToMix() {
        String[] recipes = {"0", "n>2", "r>9", "1;0", "m>12", "n=0", "s=0", "p"};
        for (String recipe : recipes) {
            for (int part : new int[] {3, 12}) {
                Check.Maker town = () -> {
                    RagTown x = mixable();
                    Check.text(x, 1, 0, recipe);
                    x.part(2, part);
                    return x;
                };
                Check.refused("none of " + recipe, town, x -> x.mix(2, 5, 0, 0), -2);
            }
        }
        Check.refused("none can be made", BlendsEdgeTest::mixable, x -> x.mix(0, 2, 9996, 0), -2);
    }

    private static void numbersOfMake() {
        Check.ends("p", BlendsEdgeTest::makeable, RagTown::make, 12, 9996, -1);
        for (int p = -12; p <= 36; p++) {
            int pounds = p;
            if (p == 12 || p == 24 || p == 36) {
                Check.is("p " + p, makeable().make(p), 0);
            } else {
                Check.refused("p " + p, BlendsEdgeTest::makeable, x -> x.make(pounds), -1);
            }
        }
        for (int p = 9984; p <= 10008; p++) {
            Check.is("p " + p, makeable().make(p), p == 9984 || p == 9996 ? 0 : -1);
        }
    }

    /** 12 PARTS of SORT 0, of which there are more than 9996 pounds. */
    private static RagTown makeable() {
        RagTown x = mixable();
        x.open(2, 0, 2, 1, 1000, 0);
        x.part(2, 0);
        x.part(0, 12);
        return x;
    }

    /** "of each SORT PARTS times p by 12" */
    private static void partsForMake() {
        RagTown x = mixable();
        x.part(0, 1);
        x.part(1, 4);
        x.part(2, 0);
        x.part(4, 7);
        Check.is("make", x.make(24), 0);
        int[] left = {9996 - 2, 1995 - 8, 1994, 1993, 1992 - 14};
        for (int s = 0; s < 5; s++) {
            Check.is("left of " + s, x.store(s, 0), left[s]);
        }
        Check.is("in CLOTH", x.of(0, 4), 24);
        Check.is("not lost", x.of(0, 5), 0);
        Check.is("THE BLEND stays", x.count(12), 12);
        blendIs("THE BLEND stays", x, 1, 4, 0, 0, 7);
    }

    /** "the STORE has not so much" */
    private static void storeHasNotSoMuch() {
        for (int s = 0; s < 3; s++) {
            int scarce = s;
            Check.Maker town = () -> {
                RagTown x = Town.busy();
                x.part(0, 4);
                x.part(1, 4);
                x.part(2, 4);
                x.part(4, 0);
                x.wipe(scarce, x.store(scarce, 0) - 40, 0);
                return x;
            };
            Check.refused("a pound a PART too much of " + s, town, x -> x.make(132), -1);
            RagTown x = town.make();
            Check.is("all of " + s, x.make(120), 2);
            Check.is("none is left", x.store(s, 0), 0);
            Check.is("not even a little", x.make(12), -1);
            RagTown y = town.make();
            y.wipe(s, 1, 0);
            Check.is("a pound too much of " + s, y.make(120), -1);
            Check.is("less of it", y.make(108), 2);
        }
    }

    /** A STORE that never had a pound, or none of one SORT. */
    private static void storeHasNothing() {
        RagTown x = Town.withSorts(3);
        x.part(0, 6);
        x.part(2, 6);
        Check.is("an empty STORE", x.make(12), -1);
        x.bale(0, 0, 100, 0);
        x.open(0, 0, 0, 2, 40, 0);
        Check.is("nothing of SORT 2", x.make(12), -1);
        Check.is("nothing TAKEN of SORT 0", x.store(0, 0), 40);
        Check.is("no CLOTH", x.count(6), 0);
        x.bale(0, 0, 100, 0);
        x.open(1, 0, 0, 3, 0, 3);
        Check.is("6 of SORT 2", x.make(12), 0);
        Check.is("none is left", x.make(12), -1);
        x.moth(0);
        Check.is("nor of SORT 0", x.store(0, 0), 0);
    }

    /** "CLOTH 0 .. (at most 20)" */
    private static void twentyCloths() {
        Check.most("CLOTH", 6, 20, 19, x -> x.make(12));
        RagTown x = Town.filled(6, 20, y -> y.make(12));
        Check.is("the last is led", x.led(19), 1);
        Check.is("it is not judged", x.fault(19, 1), 2);
        Check.is("then BAD", x.fault(19, 0), 1);
        Check.is("none behind it", x.fault(20, 0), -1);
        Check.is("nor led", x.led(20), -1);
    }

    private static void numbersOfLed() {
        Check.ends("CLOTH", Town::busy, RagTown::led, 0, 1, -1);
    }

    /** "The ROW: BALES of which a CLOTH has pounds, ascending, behind each one how many: how many BALES." */
    private static void balesAscending() {
        RagTown x = Town.withSorts(2);
        for (int b = 0; b < 24; b++) {
            x.bale(0, 0, 9999, 0);
        }
        for (int b = 23; b >= 0; b--) {
            x.open(b, 0, 0, 2, b % 2, 1);
        }
        // of SORT 0 a pound of each odd BALE, of SORT 1 one of the even ones, two of the odd ones: 12 and 36
        x.part(0, 3);
        x.part(1, 9);
        Check.is("all of SORT 0, all of SORT 1", x.make(48), 0);
        Check.is("of all BALES", x.led(0), 24);
        int[] want = new int[48];
        for (int b = 0; b < 24; b++) {
            want[2 * b] = b;
            want[2 * b + 1] = b % 2 == 0 ? 1 : 3;
        }
        Check.row("of all BALES", x, want);
        x.ring(3);
        Check.is("again", x.led(0), 24);
        Check.row("a full ROW", x, want);
        RagTown y = Town.withSorts(1);
        y.bale(0, 0, 9999, 0);
        y.bale(0, 0, 9999, 0);
        y.open(1, 0, 0, 1, 11, 0);
        y.open(0, 0, 0, 1, 13, 0);
        y.part(0, 12);
        y.make(12);
        y.make(12);
        Check.is("the LOT that came first", y.led(0), 2);
        Check.row("11 pounds and one", y, 0, 1, 1, 11);
        Check.is("the rest", y.led(1), 1);
        Check.row("the rest", y, 0, 12);
    }

    private static void numbersOfFault() {
        Check.ends("CLOTH", Town::busy, (x, v) -> x.fault(v, 2), 0, 1, -1);
        Check.ends("v", Town::busy, (x, v) -> x.fault(0, v), 0, 2, -1);
        RagTown x = Town.busy();
        x.make(12);
        Check.is("not judged as yet", x.fault(2, 2), 2);
        for (int was = 0; was <= 2; was++) {
            for (int v = 0; v <= 2; v++) {
                x.fault(2, was);
                Check.is("from " + was + " to " + v, x.fault(2, v), was);
                Check.is("it is " + v, x.fault(2, 0), v);
            }
        }
    }

    /** So many BALES, each with 40 pounds of each of 16 SORTS. */
    private static RagTown many(int bales) {
        RagTown x = Town.withSorts(16);
        for (int b = 0; b < bales; b++) {
            x.bale(0, 0, 640, 0);
            x.open(b, 0, 0, 16, 40, 0);
        }
        return x;
    }

    /** Makes a CLOTH of 12 pounds of just these BALES: of each a SORT of its own, the LOTS ahead of which go for wipers. */
    private static int cloth(RagTown x, int[] fronts, int... bales) {
        boolean[] used = new boolean[16];
        for (int s = 0; s < 16; s++) {
            x.part(s, 0);
        }
        for (int i = 0; i < bales.length; i++) {
            int best = -1;
            for (int s = 0; s < 16; s++) {
                if (!used[s] && fronts[s] <= bales[i] * 40 + 28 && (best < 0 || fronts[s] > fronts[best])) {
                    best = s;
                }
            }
            used[best] = true;
            if (fronts[best] < bales[i] * 40) {
                x.wipe(best, bales[i] * 40 - fronts[best], 0);
                fronts[best] = bales[i] * 40;
            }
            int parts = i == 0 ? 13 - bales.length : 1;
            fronts[best] += parts;
            x.part(best, parts);
        }
        int cloth = x.make(12);
        Check.is("CLOTH of " + Arrays.toString(bales), x.led(cloth), bales.length);
        for (int i = 0; i < bales.length; i++) {
            Check.is("its BALE", x.row(2 * i), bales[i]);
        }
        return cloth;
    }

    /** A town whose CLOTHS are BAD each, of these BALES. */
    private static RagTown bad(int bales, int[]... cloths) {
        RagTown x = many(bales);
        int[] fronts = new int[16];
        for (int[] each : cloths) {
            x.fault(cloth(x, fronts, each), 1);
        }
        return x;
    }

    private static void suspectsAre(String what, RagTown x, int... want) {
        Check.is(what, x.suspects(), want.length);
        Check.row(what, x, want);
    }

    /** "0: no CLOTH is BAD" */
    private static void noneIsBad() {
        RagTown x = many(2);
        x.ring(0);
        suspectsAre("no CLOTH", x);
        int[] fronts = new int[16];
        cloth(x, fronts, 0);
        cloth(x, fronts, 1);
        suspectsAre("none judged", x);
        x.fault(0, 0);
        x.ring(0);
        suspectsAre("one GOOD", x);
        x.fault(0, 1);
        x.fault(0, 2);
        x.ring(0);
        suspectsAre("BAD no more", x);
    }

    /** "-2: there are none": each BALE of a BAD one is in a GOOD one; the ROW stays */
    private static void noSuspects() {
        RagTown x = many(4);
        int[] fronts = new int[16];
        x.fault(cloth(x, fronts, 0, 1), 1);
        x.fault(cloth(x, fronts, 2), 1);
        cloth(x, fronts, 0);
        cloth(x, fronts, 1, 3);
        cloth(x, fronts, 2);
        x.led(3);
        x.fault(2, 0);
        suspectsAre("one of two is cleared", x, 1, 2);
        x.fault(3, 0);
        Check.is("both are cleared", x.suspects(), -2);
        Check.row("the ROW stays", x, 1, 2);
        x.fault(0, 2);
        suspectsAre("that one is not judged", x, 2);
        x.fault(4, 0);
        Check.is("all are cleared", x.suspects(), -2);
        Check.row("the ROW stays then, too", x, 2);
        x.fault(1, 0);
        suspectsAre("none BAD", x);
    }

    /** "or more than 4 would be needed" */
    private static void moreThanFour() {
        int[][] alone = {{3}, {5}, {7}, {9}, {11}, {13}};
        suspectsAre("1", bad(14, Arrays.copyOf(alone, 1)), 3);
        suspectsAre("2", bad(14, Arrays.copyOf(alone, 2)), 3, 5);
        suspectsAre("3", bad(14, Arrays.copyOf(alone, 3)), 3, 5, 7);
        suspectsAre("4", bad(14, Arrays.copyOf(alone, 4)), 3, 5, 7, 9);
        RagTown x = bad(14, Arrays.copyOf(alone, 5));
        x.ring(2);
        Check.is("5", x.suspects(), -2);
        Check.row("the ROW stays", x, 2);
        x.fault(2, 2);
        suspectsAre("4 again", x, 3, 5, 9, 11);
        Check.is("6", bad(14, alone).suspects(), -2);
        suspectsAre("4 of pairs", bad(8, new int[] {0, 1}, new int[] {2, 3}, new int[] {4, 5}, new int[] {6, 7}), 0, 2, 4, 6);
        Check.is("5 of pairs", bad(10, new int[] {0, 1}, new int[] {2, 3}, new int[] {4, 5}, new int[] {6, 7},
            new int[] {8, 9}).suspects(), -2);
    }

    /** "the fewest BALES" */
    private static void fewest() {
        suspectsAre("one for both", bad(4, new int[] {0, 3}, new int[] {1, 3}), 3);
        suspectsAre("the last for all", bad(6, new int[] {0, 5}, new int[] {1, 5}, new int[] {2, 5}, new int[] {3, 5}), 5);
        suspectsAre("two, not the first of each", bad(6, new int[] {0, 4}, new int[] {1, 4}, new int[] {2, 5},
            new int[] {3, 5}), 4, 5);
        suspectsAre("three", bad(7, new int[] {0, 4}, new int[] {0, 5}, new int[] {1, 4}, new int[] {1, 5}, new int[] {6}),
            0, 1, 6);
        suspectsAre("the last four of eight", bad(8, new int[] {0, 4}, new int[] {1, 5}, new int[] {2, 6}, new int[] {3, 7},
            new int[] {4}, new int[] {5}, new int[] {6}, new int[] {7}), 4, 5, 6, 7);
        suspectsAre("the last four of all", bad(24, new int[] {0, 1, 2, 3, 4, 20}, new int[] {5, 6, 7, 8, 9, 21},
            new int[] {10, 11, 12, 13, 14, 22}, new int[] {15, 16, 17, 18, 19, 23}, new int[] {20}, new int[] {21},
            new int[] {22}, new int[] {23}), 20, 21, 22, 23);
        suspectsAre("the last of all", bad(24, new int[] {0, 1, 2, 3, 4, 5, 23}, new int[] {6, 7, 8, 9, 10, 11, 23},
            new int[] {12, 13, 14, 15, 16, 17, 23}, new int[] {18, 19, 20, 21, 22, 23}), 23);
    }

    /** "of as many the first row" */
    private static void firstRowOfSuspects() {
        suspectsAre("either", bad(2, new int[] {0, 1}), 0);
        suspectsAre("{0, 7} ahead of {5, 6}", bad(8, new int[] {0, 5}, new int[] {0, 6}, new int[] {5, 7}, new int[] {6, 7}),
            0, 7);
        suspectsAre("{0, 7, 8} ahead of {5, 6, 8}", bad(9, new int[] {0, 5}, new int[] {0, 6}, new int[] {5, 7},
            new int[] {6, 7}, new int[] {8}), 0, 7, 8);
        suspectsAre("{0, 3, 7, 8} ahead of {3, 5, 6, 8}", bad(9, new int[] {0, 5}, new int[] {0, 6}, new int[] {5, 7},
            new int[] {6, 7}, new int[] {8}, new int[] {3}), 0, 3, 7, 8);
        suspectsAre("of four", bad(8, new int[] {0, 1}, new int[] {2, 3}, new int[] {4, 5}, new int[] {6, 7}, new int[] {1, 7}),
            0, 2, 4, 7);
        suspectsAre("of three with a gap", bad(9, new int[] {1, 2}, new int[] {4, 5}, new int[] {7, 8}, new int[] {2, 5}),
            1, 5, 7);
    }

    /** "of which no GOOD CLOTH has a pound, and each BAD one has some": one pound is some */
    private static void onePound() {
        RagTown x = many(3);
        int[] fronts = new int[16];
        x.fault(cloth(x, fronts, 0, 1), 1);
        x.fault(cloth(x, fronts, 1, 2), 1);
        suspectsAre("one pound in a BAD one", x, 1);
        x.fault(cloth(x, fronts, 0, 1), 0);
        Check.is("one pound in a GOOD one", x.suspects(), -2);
        x.fault(2, 2);
        suspectsAre("not judged", x, 1);
        x.fault(1, 2);
        suspectsAre("the first one alone", x, 0);
    }
}
