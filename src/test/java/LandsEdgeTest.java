import java.util.Arrays;

/** Promises 36 to 42 and what "Terms" say of the ROW, sentence by sentence. */
final class LandsEdgeTest {
    public static void main(String[] args) {
        numbersOfWish();
        wishesAtFirst();
        numbersOfTakes();
        takesAtFirst();
        numbersOfPack();
        otherDoesNotMatter();
        twiceOneSort();
        storeHasNotSoMuch();
        takenForAPack();
        eightPacks();
        numbersOfGives();
        poundsByWishes();
        barredSorts();
        noneToShare();
        asManyAsItTakes();
        sumIsMost();
        firstRowOfLands();
        mostOfAll();
        numbersOfCount();
        countsWhatThereIs();
        numbersOfRow();
        rowsThatStay();
        rowsToldLast();
        askingChangesNothing();
        Check.finish();
    }

    private static void numbersOfWish() {
        Check.ends("LAND", Town::busy, (x, v) -> x.wish(v, 0, 5), 0, 3, Check.THROWN);
        Check.ends("SORT", Town::busy, (x, v) -> x.wish(0, v, 5), 0, 4, Check.THROWN);
        Check.ends("pence", Town::busy, (x, v) -> x.wish(1, 1, v), -1, 999, Check.THROWN);
    }

    /** "a WISH (pence a pound, 0 .. 999; at first 0; or BARRED: NONE)", "what it was" */
    private static void wishesAtFirst() {
        for (int land = 0; land < 4; land++) {
            for (int sort = 0; sort < 3; sort++) {
                RagTown x = Town.withSorts(3);
                int[] told = {999, -1, 0, 1, -1, -1, 998, 0};
                int was = 0;
                for (int pence : told) {
                    Check.is("LAND " + land + " SORT " + sort, x.wish(land, sort, pence), was);
                    was = pence;
                }
                for (int other = 0; other < 3; other++) {
                    Check.is("another LAND", x.wish((land + 1) % 4, other, 7), 0);
                    Check.is("each SORT", x.wish(land, other, 7), 0);
                }
            }
        }
        RagTown y = Town.filled(0, 16, x -> x.sort(1, 1, 1, 1, 0, 0, -1));
        Check.is("of the last SORT", y.wish(3, 15, 9), 0);
        Check.is("it was", y.wish(3, 15, 8), 9);
    }

    private static void numbersOfTakes() {
        Check.ends("LAND", Town::busy, (x, v) -> x.takes(v, 5), 0, 3, -1);
        Check.ends("PACKS", Town::busy, (x, v) -> x.takes(1, v), 0, 8, -1);
    }

    /** "how many PACKS it takes (0 .. 8; at first 0)", "what it was" */
    private static void takesAtFirst() {
        RagTown x = new RagTown();
        for (int land = 0; land < 4; land++) {
            Check.is("at first " + land, x.takes(land, 8 - land), 0);
        }
        for (int land = 0; land < 4; land++) {
            Check.is("then " + land, x.takes(land, 0), 8 - land);
            Check.is("refused " + land, x.takes(land, 9), -1);
            Check.is("at last " + land, x.takes(land, 8), 0);
        }
    }

    /** 2 SORTS, of each of which there are more than 9999 pounds, and a third without any. */
    private static RagTown piles() {
        RagTown x = Town.withSorts(3);
        for (int b = 0; b < 5; b++) {
            x.bale(0, 0, 9999, 0);
            x.open(b, 0, 2, 2, 4999, 0);
        }
        x.ring(2);
        return x;
    }

    /** "Refused: others (p 1 .. 9999, q 0 .. 9999)" */
    private static void numbersOfPack() {
        Check.ends("SORT", LandsEdgeTest::piles, (x, v) -> x.pack(v, 1, v == 0 ? 1 : 0, 1), 0, 1, -1);
        Check.ends("p", LandsEdgeTest::piles, (x, v) -> x.pack(0, v, 1, 1), 1, 9999, -1);
        Check.ends("p alone", LandsEdgeTest::piles, (x, v) -> x.pack(0, v, 1, 0), 1, 9999, -1);
        Check.ends("the other SORT", LandsEdgeTest::piles, (x, v) -> x.pack(v == 0 ? 1 : 0, 1, v, 1), 0, 1, -1);
        Check.ends("q", LandsEdgeTest::piles, (x, v) -> x.pack(0, 1, 1, v), 0, 9999, -1);
        Check.is("both the most", piles().pack(0, 9999, 1, 9999), 0);
        Check.refused("a SORT that is none", LandsEdgeTest::piles, x -> x.pack(3, 1, 0, 0), -1);
        Check.refused("the other is none", LandsEdgeTest::piles, x -> x.pack(0, 1, 3, 1), -1);
    }

    /** "(with q 0 the other one doesn't matter)" */
    private static void otherDoesNotMatter() {
        for (int other : new int[] {0, 1, 2, 3, 16, -1, Integer.MIN_VALUE, Integer.MAX_VALUE}) {
            RagTown x = piles();
            Check.is("q 0, other " + other, x.pack(0, 5, other, 0), 0);
            Check.is("TAKEN of the one", x.store(0, 0), 5 * 4999 - 5);
            Check.is("not of another", x.store(1, 0), 5 * 4999);
            x.wish(0, 0, 3);
            x.wish(0, 1, -1);
            x.wish(0, 2, -1);
            Check.is("given for the one", x.gives(0, 0), 15);
        }
    }

    /** "Refused: .. twice one SORT" */
    private static void twiceOneSort() {
        for (int s = 0; s < 2; s++) {
            int sort = s;
            for (int q : new int[] {1, 5, 9999}) {
                Check.refused("twice " + s + ", q " + q, LandsEdgeTest::piles, x -> x.pack(sort, 1, sort, q), -1);
            }
            Check.is("q 0", piles().pack(s, 1, s, 0), 0);
        }
    }

    /** "Refused: .. the STORE has not so much" */
    private static void storeHasNotSoMuch() {
        Check.Maker town = () -> {
            RagTown x = piles();
            x.wipe(0, 9999, 0);
            x.wipe(0, 9999, 0);
            x.wipe(0, 4900, 0);
            x.wipe(1, 9999, 0);
            x.wipe(1, 9999, 0);
            x.wipe(1, 4927, 0);
            return x;
        };
        Check.is("SORT 0", town.make().store(0, 0), 97);
        Check.is("SORT 1", town.make().store(1, 0), 70);
        Check.is("all of both", town.make().pack(0, 97, 1, 70), 0);
        Check.refused("one too much of the one", town, x -> x.pack(0, 98, 1, 70), -1);
        Check.refused("one too much of the other", town, x -> x.pack(0, 97, 1, 71), -1);
        Check.refused("one too much, q 0", town, x -> x.pack(0, 98, 1, 0), -1);
        Check.refused("none of the one", town, x -> x.pack(2, 1, 0, 1), -1);
        Check.refused("none of the other", town, x -> x.pack(0, 1, 2, 1), -1);
        RagTown x = town.make();
        x.pack(1, 70, 0, 97);
        Check.is("the STORE is empty", x.count(5), 0);
        Check.is("not a pound", x.pack(0, 1, 0, 0), -1);
    }

    /** "pounds of SORTS, TAKEN from the STORE" */
    private static void takenForAPack() {
        RagTown x = piles();
        Check.is("its number", x.pack(0, 4999, 1, 1), 0);
        Check.is("LOTS", x.count(5), 9);
        Check.is("of the first BALE", x.of(0, 3), 4998);
        Check.is("lost of it", x.of(0, 5), 5000);
        Check.is("the next number", x.pack(1, 4999, 0, 1), 1);
        Check.is("the first BALE is gone", x.of(0, 3), 0);
        Check.is("of the next one", x.of(1, 3), 9998 - 1 - 1);
        Check.is("lost of that", x.of(1, 5), 2);
    }

    /** "PACKS 0 .. (at most 8)" */
    private static void eightPacks() {
        Check.most("PACKS", 8, 8, 7, x -> x.pack(1, 1, 2, 1));
        RagTown x = Town.filled(8, 8, y -> y.pack(1, 1, 2, 1));
        x.wish(2, 1, 4);
        x.wish(2, 2, 6);
        Check.is("the last is given for", x.gives(2, 7), 10);
        Check.is("none behind it", x.gives(2, 8), -1);
    }

    private static void numbersOfGives() {
        Check.ends("LAND", Town::busy, (x, v) -> x.gives(v, 1), 0, 3, -1);
        Check.ends("PACK", Town::busy, (x, v) -> x.gives(1, v), 0, 1, -1);
        Check.refused("-2", Town::busy, x -> x.gives(0, 0), -2);
        Check.refused("no PACK of a LAND that bars", Town::busy, x -> x.gives(0, 2), -1);
        Check.is("no PACK at all", Town.withSorts(2).gives(0, 0), -1);
    }

    /** "A LAND gives for a PACK its pounds by its WISHES" */
    private static void poundsByWishes() {
        RagTown x = piles();
        x.pack(0, 9999, 1, 9999);
        x.pack(1, 3, 0, 1);
        int[][] wishes = {{0, 0}, {1, 0}, {0, 1}, {999, 999}, {998, 999}};
        for (int[] w : wishes) {
            x.wish(3, 0, w[0]);
            x.wish(3, 1, w[1]);
            Check.is("the most pounds", x.gives(3, 0), 9999 * w[0] + 9999 * w[1]);
            Check.is("the other way", x.gives(3, 1), 3 * w[1] + w[0]);
            Check.is("another LAND", x.gives(2, 0), 0);
        }
    }

    /** "-2: it has a BARRED SORT", "none that has a BARRED SORT goes there" */
    private static void barredSorts() {
        RagTown x = piles();
        x.pack(0, 10, 1, 1);
        x.pack(1, 10, 0, 0);
        x.takes(1, 8);
        x.wish(1, 0, 5);
        x.wish(1, 1, 7);
        x.wish(1, 2, -1);
        shareIs("none BARRED", x, 57 + 70, 1, 1);
        x.wish(1, 0, -1);
        Check.is("the one", x.gives(1, 0), -2);
        Check.is("it has none of it", x.gives(1, 1), 70);
        shareIs("the one", x, 70, -1, 1);
        x.wish(1, 0, 5);
        x.wish(1, 1, -1);
        Check.is("the other", x.gives(1, 0), -2);
        Check.is("the only one", x.gives(1, 1), -2);
        shareIs("both", x, 0, -1, -1);
        x.wish(1, 1, 0);
        Check.is("BARRED no more", x.gives(1, 0), 50);
        shareIs("BARRED no more", x, 50, 1, 1);
    }

    private static void shareIs(String what, RagTown x, long sum, int... lands) {
        Check.is(what, x.share(), sum);
        Check.row(what, x, lands);
    }

    /** No PACK, no LAND that takes one: the ROW has a NONE for each PACK. */
    private static void noneToShare() {
        RagTown x = piles();
        shareIs("no PACK", x, 0);
        for (int land = 0; land < 4; land++) {
            x.takes(land, 8);
            x.wish(land, 0, 9);
        }
        shareIs("no PACK, but LANDS", x, 0);
        x.pack(0, 1, 0, 0);
        shareIs("one PACK", x, 9, 0);
        for (int land = 0; land < 4; land++) {
            x.takes(land, 0);
        }
        for (int n = 1; n <= 8; n++) {
            int[] none = new int[n];
            Arrays.fill(none, -1);
            shareIs(n + " PACKS, no LAND", x, 0, none);
            x.pack(0, 1, 0, 0);
        }
    }

    private static RagTown packed(int packs) {
        RagTown x = piles();
        for (int i = 0; i < packs; i++) {
            x.pack(0, 10, 0, 0);
        }
        return x;
    }

    /** "how many PACKS it takes" */
    private static void asManyAsItTakes() {
        for (int land = 0; land < 4; land++) {
            for (int takes = 0; takes <= 8; takes++) {
                RagTown x = packed(8);
                x.takes(land, takes);
                x.wish(land, 0, 5);
                int[] want = new int[8];
                for (int i = 0; i < 8; i++) {
                    want[i] = i < takes ? land : -1;
                }
                shareIs("LAND " + land + " takes " + takes, x, 50 * takes, want);
            }
        }
    }

    /** "so that the sum given is most" */
    private static void sumIsMost() {
        RagTown x = piles();
        x.pack(0, 10, 1, 0);
        x.pack(1, 10, 1, 0);
        x.takes(0, 1);
        x.takes(1, 1);
        x.wish(0, 0, 10);
        x.wish(0, 1, 9);
        x.wish(1, 0, 9);
        x.wish(1, 1, 1);
        shareIs("not each to its best", x, 90 + 90, 1, 0);
        x.wish(1, 1, 7);
        shareIs("a little less", x, 180, 1, 0);
        x.wish(1, 1, 8);
        shareIs("as much", x, 180, 0, 1);
        x.wish(1, 1, 9);
        shareIs("a little more", x, 190, 0, 1);
        x.takes(1, 0);
        shareIs("one LAND", x, 100, 0, -1);
        x.wish(0, 1, 11);
        shareIs("the other PACK", x, 110, -1, 0);
    }

    /** "of equal ones the first row (LANDS by numbers, none behind all)" */
    private static void firstRowOfLands() {
        RagTown x = packed(3);
        x.takes(3, 1);
        shareIs("0 given is better than none", x, 0, 3, -1, -1);
        x.takes(2, 1);
        shareIs("LANDS by numbers", x, 0, 2, 3, -1);
        x.takes(0, 1);
        shareIs("three of them", x, 0, 0, 2, 3);
        x.takes(1, 3);
        shareIs("the first two", x, 0, 0, 1, 1);
        x.wish(3, 0, 1);
        shareIs("10 more", x, 10, 0, 1, 3);
        x.wish(0, 0, -1);
        shareIs("0 BARRED", x, 10, 1, 1, 3);
        x.takes(3, 3);
        shareIs("all to 3", x, 30, 3, 3, 3);
        x.wish(1, 0, 1);
        shareIs("all to 1", x, 30, 1, 1, 1);
        x.takes(1, 1);
        shareIs("one to 1", x, 30, 1, 3, 3);
        RagTown y = packed(8);
        for (int land = 0; land < 4; land++) {
            y.takes(land, 2);
        }
        shareIs("two each", y, 0, 0, 0, 1, 1, 2, 2, 3, 3);
        y.takes(0, 1);
        shareIs("one is left", y, 0, 0, 1, 1, 2, 2, 3, 3, -1);
        y.wish(2, 0, 4);
        shareIs("as far behind as can be", y, 80, 0, 1, 1, 2, 2, 3, 3, -1);
    }

    /** The most that can be given. */
    private static void mostOfAll() {
        RagTown x = Town.withSorts(2);
        for (int b = 0; b < 17; b++) {
            x.bale(0, 0, 9999, 0);
            x.open(b, 0, 2, 2, 4999, 1);
        }
        for (int i = 0; i < 8; i++) {
            Check.is("PACK", x.pack(0, 9999, 1, 9999), i);
        }
        for (int land = 0; land < 4; land++) {
            x.wish(land, 0, 999);
            x.wish(land, 1, land == 1 ? 999 : 998);
            x.takes(land, land == 1 ? 7 : 1);
        }
        shareIs("the most but one", x, 15L * 9999 * 999 + 9999 * 998, 0, 1, 1, 1, 1, 1, 1, 1);
        x.takes(1, 8);
        shareIs("the most", x, 16L * 9999 * 999, 1, 1, 1, 1, 1, 1, 1, 1);
    }

    private static void numbersOfCount() {
        Check.ends("what", Town::busy, RagTown::count, 0, 12, -1);
    }

    private static void countsWhatThereIs() {
        int[] want = {5, 7, 4, 5, 2, 12, 2, 6, 2, 4, 5, 60, 12};
        Check.Act[] more = {x -> x.sort(1, 1, 1, 1, 0, 0, -1), x -> x.price(0, 0, 0), x -> x.bale(0, 0, 1, 0),
            x -> x.look(0, 0, 0, 0, 0), null, x -> x.open(3, 0, 0, 4, 5, 5), null, x -> x.twice(0, 0, 1, 0),
            x -> x.pack(1, 1, 0, 0), x -> x.led(0), x -> x.sign(0), x -> x.as(0), x -> x.part(1, 12)};
        int[] then = {6, 8, 5, 6, 2, 16, 2, 7, 3, 2, 9, 0, 24};
        for (int i = 0; i <= 12; i++) {
            for (int what = 0; what <= 12; what++) {
                RagTown x = Town.busy();
                if (more[i] != null) {
                    more[i].on(x);
                }
                Check.is("count " + what + " behind a call for " + i, x.count(what), what == i ? then[what] : want[what]);
            }
        }
        RagTown x = Town.busy();
        x.make(12);
        Check.is("CLOTH", x.count(6), 3);
        x.text(2, 0);
        Check.is("signs", x.count(10), 0);
        Check.text(x, 1, 0, "1");
        Check.is("RECIPES", x.count(4), 3);
        x.moth(0);
        Check.is("LOTS with pounds", x.count(5), 10);
        int first = x.store(0, 0) - 396;
        x.wipe(0, first - 1, 0);
        Check.is("a pound is left of the first", x.count(5), 10);
        x.wipe(0, 1, 0);
        Check.is("none is", x.count(5), 9);
    }

    private static void numbersOfRow() {
        Check.ends("i", Town::busy, RagTown::row, 0, 3, Check.THROWN);
        RagTown x = Town.busy();
        x.ring(0);
        Check.row("six numbers", x, 0, 1, 2, 3, 4, 5);
        x.suspects();
        Check.row("one number", x, 1);
        x.fault(1, 2);
        x.suspects();
        Check.row("no number", x);
        x.share();
        Check.row("two numbers", x, 3, 3);
    }

    /** "The ROW stays with NONE and with each number below 0 that tells why there is no answer (-2, -3 ..)" */
    private static void rowsThatStay() {
        Check.refused("led", Town::busy, x -> x.led(2), -1);
        Check.refused("foretell of none such", Town::busy, x -> x.foretell(0, 0, 5), -1);
        Check.refused("foretell of no BALE", Town::busy, x -> x.foretell(0, 0, 0), -1);
        Check.refused("ring", Town::busy, x -> x.ring(6), -1);
        Check.Maker cleared = () -> {
            RagTown x = Town.busy();
            x.make(12);
            x.fault(2, 1);
            x.fault(1, 0);
            x.fault(0, 1);
            x.ring(4);
            return x;
        };
        Check.refused("suspects", cleared, RagTown::suspects, -2);
        Check.refused("open -2", Town::busy, x -> x.open(3, 0, 0, -1, 0, 0), -2);
        Check.refused("open -3", Town::busy, x -> x.open(3, 0, 3, 0, 0, 0), -3);
        Check.refused("open -4", Town::busy, x -> x.open(3, 0, 0, 1, -1, 0), -4);
        Check.refused("row", Town::busy, x -> x.row(4), Check.THROWN);
    }

    /** "numbers told last by a call that says so" */
    private static void rowsToldLast() {
        Check.Act[] quiet = {x -> x.sort(1, 1, 1, 1, 0, 0, -1), x -> x.price(0, 0, 1), x -> x.at(0, 60), x -> x.within(0, 0),
            x -> x.bale(0, 0, 1, 0), x -> x.open(3, 0, 0, 5, 1, 0), x -> x.of(0, 0), x -> x.look(0, 0, 0, 0, 0), x -> x.as(3),
            x -> x.off(0, 0), x -> x.due(0), x -> x.sign(0), x -> x.end(0) ? 1 : 0, x -> x.text(2, 0), x -> x.text(9, 0),
            x -> x.pay(0), x -> x.store(0, 0), x -> x.fire(3), x -> x.moth(0), x -> x.wipe(0, 1, 1), x -> x.split(0, 0),
            x -> x.part(0, 4), x -> x.judge(0), x -> x.cost(60), x -> x.mix(0, 31, 0, 60), x -> x.mix(1, 2, 9996, 60),
            x -> x.make(12), x -> x.fault(0, 1), x -> x.twice(0, 0, 1, 0), x -> x.eye(0), x -> x.met(0, 1),
            x -> x.called(0, 4), x -> x.wish(0, 0, 1), x -> x.takes(0, 2), x -> x.pack(0, 1, 1, 1), x -> x.gives(0, 0),
            x -> x.count(0), x -> x.row(0)};
        for (int i = 0; i < quiet.length; i++) {
            RagTown x = Town.busy();
            quiet[i].on(x);
            Check.row("behind quiet call " + i, x, 0, 820, 1, 20);
        }
        Check.Act[] telling = {x -> x.led(0), x -> x.suspects(), x -> x.foretell(1, -1, 4), x -> x.ring(1), x -> x.share()};
        int[][] rows = {{0, 120}, {1}, {140, 140, 1}, {0, 1, 2, 3, 4, 5}, {3, 3}};
        for (int i = 0; i < telling.length; i++) {
            for (int j = 0; j < telling.length; j++) {
                RagTown x = Town.busy();
                telling[i].on(x);
                telling[j].on(x);
                Check.row("told by " + j + " behind " + i, x, rows[j]);
            }
        }
    }

    /** What is only asked for changes nothing, with any answer. */
    private static void askingChangesNothing() {
        Check.Act[] asked = {x -> x.at(0, 60), x -> x.within(3, 0), x -> x.of(1, 3), x -> x.off(0, 0), x -> x.due(0),
            x -> x.pay(5), x -> x.store(0, 1), x -> x.split(0, 60), x -> x.judge(0), x -> x.cost(60), x -> x.eye(0),
            x -> x.met(0, 1), x -> x.called(0, 4), x -> x.gives(3, 1), x -> x.count(5), x -> x.row(1), x -> x.end(5) ? 1 : 0,
            x -> x.fire(0), x -> x.moth(3), x -> x.as(60), x -> x.fault(1, 1), x -> x.takes(3, 8), x -> x.wish(0, 1, -1)};
        for (int i = 0; i < asked.length; i++) {
            RagTown x = Town.busy();
            Check.yes("answered " + i, Check.answer(x, asked[i]) != Check.THROWN);
            Check.same("asked " + i, Town.seen(x), Town.seen(Town.busy()));
        }
    }
}
