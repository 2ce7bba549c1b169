/** Promises 17 to 21 and what "Terms" say of the STORE, sentence by sentence. */
final class StoreEdgeTest {
    public static void main(String[] args) {
        numbersOfStore();
        aloneAndWithin();
        numbersOfFire();
        roundedUp();
        eachLotAlone();
        numbersOfMoth();
        allLotsOfABale();
        numbersOfWipe();
        notSoManyPounds();
        wipersCut();
        firstLotsFirst();
        numbersOfSplit();
        noneOfTheseWasFound();
        sharesAsTheyHave();
        cutForEach();
        pricesOfTheWeek();
        ofItAlone();
        manyPounds();
        allLots();
        splitOfSixteen();
        Check.finish();
    }

    private static void numbersOfStore() {
        Check.ends("SORT alone", Town::busy, (x, v) -> x.store(v, 0), 0, 4, -1);
        Check.ends("SORT with what is within", Town::busy, (x, v) -> x.store(v, 1), 0, 4, -1);
        Check.ends("what", Town::busy, (x, v) -> x.store(0, v), 0, 1, -1);
    }

    /** "what 0: of it alone, 1: of all SORTS within it" */
    private static void aloneAndWithin() {
        RagTown x = Town.busy();
        int[] alone = {771, 1131, 860, 1072, 789};
        int[] within = {771 + 1131 + 860 + 1072, 1131 + 1072, 860, 1072, 789};
        for (int s = 0; s < 5; s++) {
            Check.is("alone " + s, x.store(s, 0), alone[s]);
            Check.is("within " + s, x.store(s, 1), within[s]);
        }
        x.sort(1, 1, 1, 1, 0, 0, 3);
        Check.is("one that has none", x.store(5, 0), 0);
        Check.is("none within it", x.store(5, 1), 0);
        RagTown y = Town.withSorts(15);
        y.sort(1, 1, 1, 1, 0, 0, 14);
        y.bale(0, 0, 9999, 0);
        Check.is("an empty STORE", y.store(15, 0), 0);
        y.open(0, 0, 2, 16, 0, 7);
        y.fire(1000);
        y.bale(0, 0, 9999, 0);
        y.open(1, 0, 2, 16, 0, 1);
        Check.is("of the last SORT", y.store(15, 0), 15);
        Check.is("with what is within", y.store(14, 1), 14 + 15);
        Check.is("of SORT 0", y.store(0, 1), 0);
    }

    /** "v 0 .. 1000", "Refused: others." */
    private static void numbersOfFire() {
        Check.ends("v", Town::busy, RagTown::fire, 0, 1000, -1);
        Check.refused("a fire of 0", Town::busy, x -> x.fire(0), 0);
        RagTown x = Town.busy();
        Check.is("a fire of 1000", x.fire(1000), 771 + 1131 + 860 + 1072 + 789);
        Check.is("no LOT", x.count(5), 0);
        Check.is("a second one", x.fire(1000), 0);
        Check.is("in CLOTH still", x.of(0, 4), 940);
    }

    /** One SORT, one BALE of so many pounds. */
    private static RagTown pile(int pounds) {
        RagTown x = Town.withSorts(1);
        x.bale(0, 0, 9999, 0);
        x.open(0, 0, 2, 1, pounds, 0);
        return x;
    }

    /** "each LOT is less by its pounds times v by 1000 (rounded up ..)" */
    private static void roundedUp() {
        int[][] fires = {{1, 1}, {1, 999}, {1, 1000}, {1, 0}, {999, 1}, {1000, 1}, {1001, 1}, {2000, 1}, {2001, 1}, {9999, 1},
            {9999, 1000}, {9999, 999}, {9999, 500}, {2, 500}, {3, 500}, {500, 2}, {501, 2}, {499, 2}, {10, 100}, {11, 100}};
        int[] burnt = {1, 1, 1, 0, 1, 1, 2, 2, 3, 10, 9999, 9990, 5000, 1, 2, 1, 2, 1, 1, 2};
        for (int i = 0; i < fires.length; i++) {
            RagTown x = pile(fires[i][0]);
            String what = fires[i][0] + " pounds, v " + fires[i][1];
            Check.is(what, x.fire(fires[i][1]), burnt[i]);
            Check.is(what + " left", x.store(0, 0), fires[i][0] - burnt[i]);
            Check.is(what + " lost", x.of(0, 5), burnt[i]);
            Check.is(what + " LOTS", x.count(5), fires[i][0] == burnt[i] ? 0 : 1);
        }
    }

    /** Each LOT is rounded for itself; one without pounds loses none. */
    private static void eachLotAlone() {
        RagTown x = Town.withSorts(2);
        for (int b = 0; b < 3; b++) {
            x.bale(0, 0, 100, 0);
            x.open(b, 0, 0, 2, b, 1);
        }
        Check.is("LOTS", x.count(5), 5);
        Check.is("a pound of each", x.fire(1), 5);
        Check.is("left", x.store(0, 0) + x.store(1, 0), 0 + 1 + 0 + 1 + 2);
        Check.is("LOTS left", x.count(5), 3);
        Check.is("a pound of each of these", x.fire(1), 3);
        Check.is("LOTS left then", x.count(5), 1);
        Check.is("the last pound", x.fire(1), 1);
        Check.is("none", x.fire(1), 0);
        Check.is("lost of BALE 2", x.of(2, 5), 5);
    }

    private static void numbersOfMoth() {
        Check.ends("BALE", Town::busy, RagTown::moth, 0, 3, -1);
        Check.refused("one that is not SORTED", Town::busy, x -> x.moth(3), 0);
    }

    /** "all LOTS of a BALE are gone: how many pounds" */
    private static void allLotsOfABale() {
        int[] left = {483, 2114, 2026, 0};
        int[] lots = {2, 5, 5, 0};
        for (int b = 0; b < 4; b++) {
            RagTown x = Town.busy();
            int lost = x.of(b, 5);
            Check.is("moths in " + b, x.moth(b), left[b]);
            Check.is("in the STORE of " + b, x.of(b, 3), 0);
            Check.is("lost of " + b, x.of(b, 5), lost + left[b]);
            Check.is("LOTS besides " + b, x.count(5), 12 - lots[b]);
            Check.is("moths again", x.moth(b), 0);
            for (int other = 0; other < 4; other++) {
                Check.is("of another " + other, x.of(other, 3), other == b ? 0 : left[other]);
            }
        }
    }

    /** "Refused: others, .. p not 1 .. 9999", "y 0 .. 1000" */
    private static void numbersOfWipe() {
        Check.ends("SORT", Town::busy, (x, v) -> x.wipe(v, 1, 0), 0, 4, -1);
        Check.ends("p", StoreEdgeTest::twoPiles, (x, v) -> x.wipe(0, v, 1000), 1, 9999, -1);
        Check.ends("y", Town::busy, (x, v) -> x.wipe(0, 1, v), 0, 1000, -1);
        Check.is("one pound", twoPiles().wipe(0, 1, 1000), 1);
        Check.is("the most", twoPiles().wipe(0, 9999, 1000), 9999);
    }

    /** More than 9999 pounds of a SORT, of two BALES. */
    private static RagTown twoPiles() {
        RagTown x = pile(9999);
        x.bale(0, 0, 9999, 0);
        x.open(1, 0, 2, 1, 9999, 0);
        return x;
    }

    /** "Refused: .. not so many pounds" */
    private static void notSoManyPounds() {
        int[] alone = {771, 1131, 860, 1072, 789};
        for (int s = 0; s < 5; s++) {
            int sort = s;
            RagTown x = Town.busy();
            Check.refused("one more than there are of " + s, Town::busy, y -> y.wipe(sort, alone[sort] + 1, 1000), -1);
            Check.is("all there are of " + s, x.wipe(s, alone[s], 1000), alone[s]);
            Check.is("one of none", x.wipe(s, 1, 0), -1);
        }
    }

    /** "p times y by 1000 (cut ..): wipers" */
    private static void wipersCut() {
        int[][] some = {{1, 999}, {1, 1000}, {2, 500}, {1, 500}, {3, 500}, {999, 1}, {1000, 1}, {1001, 1}, {9999, 999}, {9999, 0},
            {1999, 1}};
        int[] wipers = {0, 1, 1, 0, 1, 0, 1, 1, 9989, 0, 1};
        for (int i = 0; i < some.length; i++) {
            RagTown x = pile(9999);
            Check.is(some[i][0] + " pounds, y " + some[i][1], x.wipe(0, some[i][0], some[i][1]), wipers[i]);
            Check.is("TAKEN", x.store(0, 0), 9999 - some[i][0]);
            Check.is("lost", x.of(0, 5), some[i][0]);
        }
    }

    /** "Pounds are TAKEN of a SORT from its first LOTS on", "in the order in which they came" */
    private static void firstLotsFirst() {
        int[] order = {2, 0, 1};
        int[][] left = {{10, 10, 10}, {9, 10, 10}, {0, 10, 10}, {0, 9, 10}, {0, 0, 10}, {0, 0, 1}, {0, 0, 0}};
        int[] taken = {0, 1, 10, 11, 20, 29, 30};
        for (int i = 0; i < taken.length; i++) {
            RagTown x = Town.withSorts(2);
            for (int b = 0; b < 3; b++) {
                x.bale(0, 0, 100, 0);
            }
            for (int b : order) {
                x.open(b, 0, 0, 2, 10, 0);
            }
            if (taken[i] > 0) {
                Check.is("wipe " + taken[i], x.wipe(1, taken[i], 1000), taken[i]);
            }
            for (int j = 0; j < 3; j++) {
                Check.is(taken[i] + " TAKEN, left of " + order[j], x.of(order[j], 3), 10 + left[i][j]);
                Check.is(taken[i] + " TAKEN, lost of " + order[j], x.of(order[j], 5), 10 - left[i][j]);
            }
            Check.is("the other SORT", x.store(0, 0), 30);
        }
    }

    /** "NoSuchElementException: none such, another WEEK" */
    private static void numbersOfSplit() {
        Check.ends("SORT", Town::busy, (x, v) -> x.split(v, 0), 0, 1, Check.THROWN);
        Check.ends("WEEK", Town::busy, (x, v) -> x.split(0, v), 0, 99, Check.THROWN);
        for (int s = 2; s <= 5; s++) {
            int sort = s;
            Check.refused("SORT " + s, Town::busy, x -> x.split(sort, 0), Check.THROWN);
        }
        Check.refused("an answer changes nothing", Town::busy, x -> x.split(0, 60), Town.busy().split(0, 60));
    }

    /** "none of these was found" */
    private static void noneOfTheseWasFound() {
        RagTown x = new RagTown();
        x.sort(1, 1, 1, 1, 0, 0, -1);
        x.sort(1, 1, 1, 1, 0, 0, 0);
        x.sort(1, 1, 1, 1, 0, 0, 1);
        for (int b = 0; b < 3; b++) {
            x.bale(0, 0, 100, 0);
        }
        Check.noSuchElement("no BALE is SORTED", () -> x.split(0, 0));
        x.open(0, 0, 0, 1, 50, 0);
        Check.noSuchElement("of it alone", () -> x.split(0, 0));
        x.open(1, 0, 0, 3, 0, 0);
        Check.noSuchElement("none of it", () -> x.split(0, 0));
        x.price(1, 0, 3);
        x.open(2, 0, 0, 2, 0, 1);
        Check.is("one pound was found", x.split(0, 0), 150);
        Check.noSuchElement("a part of a part was not", () -> x.split(1, 0));
        x.fire(1000);
        Check.is("found once", x.split(0, 0), 0);
        RagTown y = new RagTown();
        y.sort(1, 1, 1, 1, 0, 0, -1);
        y.sort(1, 1, 1, 1, 0, 0, 0);
        y.sort(1, 1, 1, 1, 0, 0, 1);
        y.bale(0, 0, 100, 0);
        y.open(0, 0, 0, 3, 0, 0);
        Check.noSuchElement("nothing was", () -> y.split(0, 0));
        y.bale(0, 0, 100, 0);
        y.open(1, 0, 1, 3, -65536, 0);
        Check.noSuchElement("nothing was, of two", () -> y.split(0, 0));
    }

    /** SORT 0 with so many pounds in the STORE, and its parts 1 and 2, of which there were so many (once 2 * one >= other). */
    private static RagTown parted(int whole, int one, int other) {
        RagTown x = new RagTown();
        x.sort(1, 1, 1, 1, 0, 0, -1);
        x.sort(1, 1, 1, 1, 0, 0, 0);
        x.sort(1, 1, 1, 1, 0, 0, 0);
        x.bale(0, 0, 9999, 0);
        x.bale(0, 0, 9999, 0);
        Check.yes("its parts", x.open(0, 0, 2, 3, 2 * one - other, other - one) >= 0);
        Check.yes("some more of it", x.open(1, 0, 2, 1, 9000, 0) >= 0);
        x.wipe(0, x.store(0, 0) - whole, 0);
        Check.is("in the STORE", x.store(0, 0), whole);
        return x;
    }

    /** "in shares as these have had pounds in all BALES that were SORTED" */
    private static void sharesAsTheyHave() {
        RagTown x = Town.busy();
        x.price(3, 0, 8);
        Check.is("into one", x.split(1, 60), 1131 * 8 - 1131 * 7);
        // of 1 there were 310, 480 and 405 pounds, of 2 there were 320, 460 and 410
        int one = 771 * 1195 / 2385;
        int other = 771 * 1190 / 2385;
        Check.is("into two", x.split(0, 60), one * 7 + other * 9 - 771 * 20);
        Check.is("in an early WEEK", x.split(0, 4), one * 7 + other * 9);
        Check.is("in the WEEK of a PRICE", x.split(0, 5), one * 7 + other * 9 - 771 * 12);
        x.moth(0);
        x.moth(1);
        x.wipe(1, x.store(1, 0), 0);
        int left = x.store(0, 0);
        Check.is("as they have had", x.split(0, 4), left * 1195 / 2385 * 7 + left * 1190 / 2385 * 9);
    }

    /** "for each of these the pounds times what it had by what they had together (cut) times its PRICE" */
    private static void cutForEach() {
        int[][] towns = {{10, 1, 2}, {2, 1, 2}, {1, 1, 2}, {0, 1, 2}, {3, 1, 2}, {11, 4, 3}, {9000, 7, 0}, {9, 5, 10}};
        for (int[] t : towns) {
            RagTown x = parted(t[0], t[1], t[2]);
            x.price(1, 0, 100);
            x.price(2, 0, 10);
            x.price(0, 50, 30);
            int pence = t[0] * t[1] / (t[1] + t[2]) * 100 + t[0] * t[2] / (t[1] + t[2]) * 10;
            String what = t[0] + " pounds by " + t[1] + " and " + t[2];
            Check.is(what, x.split(0, 49), pence);
            Check.is(what + ", less", x.split(0, 50), pence - t[0] * 30);
        }
    }

    /** "would bring more in a WEEK": each PRICE is that of the WEEK */
    private static void pricesOfTheWeek() {
        RagTown x = parted(300, 10, 20);
        int[][] prices = {{1, 10, 7}, {2, 20, 9}, {0, 30, 4}, {1, 40, 0}, {2, 99, 1}};
        for (int[] p : prices) {
            x.price(p[0], p[1], p[2]);
        }
        int[][] want = {{0, 0}, {9, 0}, {10, 700}, {19, 700}, {20, 2500}, {29, 2500}, {30, 1300}, {39, 1300}, {40, 600},
            {98, 600}, {99, -1000}};
        for (int[] w : want) {
            Check.is("WEEK " + w[0], x.split(0, w[0]), w[1]);
        }
    }

    /** "(what each had: of it alone, not what is within it)" */
    private static void ofItAlone() {
        RagTown x = new RagTown();
        x.sort(1, 1, 1, 1, 0, 0, -1);
        x.sort(1, 1, 1, 1, 0, 0, 0);
        x.sort(1, 1, 1, 1, 0, 0, 0);
        x.sort(1, 1, 1, 1, 0, 0, 1);
        x.bale(0, 0, 9999, 0);
        x.open(0, 0, 2, 4, 400, -100);
        for (int s = 0; s < 4; s++) {
            x.price(s, 0, 100 - 30 * s);
        }
        Check.is("300 and 200", x.split(0, 0), 240 * 70 + 160 * 40 - 400 * 100);
        Check.is("100 alone", x.split(1, 0), 300 * 10 - 300 * 70);
    }

    /** As many pounds as there can be: products are longer than an int. */
    private static void manyPounds() {
        RagTown x = new RagTown();
        x.sort(1, 1, 1, 1, 0, 0, -1);
        x.sort(1, 1, 1, 1, 0, 0, 0);
        x.sort(1, 1, 1, 1, 0, 0, 0);
        for (int b = 0; b < 24; b++) {
            x.bale(0, 0, 9999, 0);
            x.open(b, 0, 2, 3, 3333, 0);
        }
        x.price(1, 0, 999);
        x.price(2, 0, 998);
        Check.is("shares of 79992 pounds", x.split(0, 0), 39996 * 999 + 39996 * 998);
        x.price(0, 0, 999);
        Check.is("a little less", x.split(0, 0), -39996);
        Check.is("all within", x.store(0, 1), 24 * 9999);
        Check.is("all burn", x.fire(1000), 24 * 9999);
        RagTown y = new RagTown();
        y.sort(1, 1, 1, 1, 0, 0, -1);
        y.sort(1, 1, 1, 1, 0, 0, 0);
        for (int b = 0; b < 24; b++) {
            y.bale(0, 0, 9999, 0);
            y.open(b, 0, 2, b == 23 ? 2 : 1, b == 23 ? 0 : 9999, b == 23 ? 1 : 0);
        }
        y.price(0, 0, 999);
        Check.is("the least", y.split(0, 0), -999 * 23 * 9999);
        y.price(1, 0, 999);
        Check.is("as much", y.split(0, 0), 0);
        y.price(0, 0, 0);
        Check.is("the most", y.split(0, 0), 999 * 23 * 9999);
    }

    /** All LOTS that there can be: 16 SORTS of 24 BALES. */
    private static RagTown fullOfLots() {
        RagTown x = Town.withSorts(16);
        for (int b = 0; b < 24; b++) {
            x.bale(b % 4, b % 8, 9999, 0);
            x.open(b, 0, 2, 16, 10 + b, 1);
        }
        return x;
    }

    private static int poundsOf(int bale) {
        return 16 * (10 + bale) + 120;
    }

    private static void allLots() {
        RagTown x = fullOfLots();
        Check.is("LOTS", x.count(5), 384);
        for (int b = 0; b < 24; b++) {
            Check.is("in the STORE of " + b, x.of(b, 3), poundsOf(b));
        }
        for (int s = 0; s < 16; s++) {
            Check.is("of SORT " + s, x.store(s, 1), 24 * (10 + s) + 276);
        }
        Check.is("moths in the first", x.moth(0), poundsOf(0));
        Check.is("moths in the last", x.moth(23), poundsOf(23));
        Check.is("LOTS left", x.count(5), 352);
        int last = x.store(15, 0);
        Check.is("the last SORT", x.wipe(15, last, 1000), last);
        Check.is("LOTS left then", x.count(5), 330);
        Check.is("a fire", x.fire(1), 330);
        Check.is("of the last but one", x.of(22, 3), poundsOf(22) - 47 - 15);
        Check.is("lost of it", x.of(22, 5), 47 + 15);
        Check.is("all the rest", x.fire(1000) > 0 ? x.count(5) : -1, 0);
        RagTown y = fullOfLots();
        y.part(15, 12);
        Check.is("a CLOTH of all LOTS of the last SORT", y.make(876), 0);
        Check.is("of all BALES", y.led(0), 24);
        Check.is("nothing is left of it", y.store(15, 0), 0);
        Check.is("a PACK of all LOTS of two", y.pack(14, y.store(14, 0), 0, y.store(0, 0)), 0);
        Check.is("LOTS left", y.count(5), 384 - 72);
    }

    private static void splitOfSixteen() {
        RagTown x = new RagTown();
        for (int s = 0; s < 16; s++) {
            x.sort(1, 1, 1, 1, 0, 0, s < 8 ? s - 1 : 0);
            x.price(s, 0, s);
        }
        x.bale(0, 0, 9999, 0);
        x.open(0, 0, 2, 16, 100, 0);
        Check.is("into 1 and 8 to 15", x.split(0, 0), 100 / 9 * (1 + 8 + 9 + 10 + 11 + 12 + 13 + 14 + 15));
        for (int s = 1; s < 7; s++) {
            Check.is("into the next " + s, x.split(s, 0), 100);
        }
        for (int s = 7; s < 16; s++) {
            int sort = s;
            Check.noSuchElement("none has it as its PARENT " + s, () -> x.split(sort, 0));
        }
    }
}
