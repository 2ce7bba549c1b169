/** Promises 1 to 5, sentence by sentence: what is taken last and refused first, nothing there yet, full. */
final class SortsEdgeTest {
    public static void main(String[] args) {
        nothingThereIsCounted();
        nothingThereIsFound();
        nothingThereIsTaken();
        numbersOfASort();
        leastAboveMost();
        parentsToldAhead();
        sixteenSorts();
        numbersOfAPrice();
        sixtyPrices();
        numbersOfAt();
        withoutAPrice();
        greatestWeekNotAbove();
        equalWeeks();
        numbersOfWithin();
        ofItselfToo();
        farUp();
        Check.finish();
    }

    /** "Nothing there." */
    private static void nothingThereIsCounted() {
        for (int what = 0; what <= 12; what++) {
            Check.is("new: count " + what, new RagTown().count(what), what == 11 ? 99 : 0);
        }
        Check.noSuchElement("new: row 0", () -> new RagTown().row(0));
        Check.is("new: share", new RagTown().share(), 0);
        Check.is("new: suspects", new RagTown().suspects(), 0);
        Check.is("new: fire", new RagTown().fire(1000), 0);
        Check.yes("new: end 0", new RagTown().end(0));
        Check.no("new: end 1", new RagTown().end(1));
        for (int v = 0; v < 6; v++) {
            int sorter = v;
            Check.is("new: pay of " + v, new RagTown().pay(v), 0);
            Check.is("new: eye of " + v, new RagTown().eye(v), -1);
            RagTown x = new RagTown();
            Check.is("new: ring of " + v, x.ring(sorter), 1);
            Check.row("new: ring of " + v, x, sorter);
        }
        for (int land = 0; land < 4; land++) {
            Check.is("new: takes of " + land, new RagTown().takes(land, 0), 0);
        }
        Check.is("new: as", new RagTown().as(0), 99);
        for (int k = 0; k < 3; k++) {
            Check.is("new: the text of an empty TAPE " + k, new RagTown().text(k, 0), -1);
        }
    }

    private static void nothingThereIsFound() {
        Check.Act[] asked = {x -> x.at(0, 0), x -> x.within(0, 0), x -> x.of(0, 0), x -> x.off(0, 0), x -> x.due(0),
            x -> x.store(0, 0), x -> x.judge(0), x -> x.cost(0), x -> x.led(0), x -> x.foretell(0, -1, 0),
            x -> x.met(0, 1), x -> x.called(0, 0), x -> x.gives(0, 0)};
        for (int i = 0; i < asked.length; i++) {
            Check.refused("new: asked " + i, Town::bare, asked[i], -1);
        }
        Check.refused("new: split", Town::bare, x -> x.split(0, 0), Check.THROWN);
    }

    private static void nothingThereIsTaken() {
        Check.Act[] calls = {x -> x.price(0, 0, 0), x -> x.open(0, 0, 0, 0, 0, 0), x -> x.look(0, 0, 0, 0, 0),
            x -> x.moth(0), x -> x.wipe(0, 1, 0), x -> x.part(0, 0), x -> x.mix(0, 1, 0, 0), x -> x.make(12),
            x -> x.fault(0, 2), x -> x.twice(0, 0, 1, 0), x -> x.pack(0, 1, 0, 0), x -> x.sort(0, 0, 0, 1, 0, 0, 0)};
        for (int i = 0; i < calls.length; i++) {
            Check.refused("new: call " + i, Town::bare, calls[i], -1);
        }
        Check.refused("new: wish", Town::bare, x -> x.wish(0, 0, 0), Check.THROWN);
    }

    /** "A COLOUR (three numbers 0 .. 255), a STAPLE (1 .. 99), WOOL of 1000, least and most (0 .. 1000)" */
    private static void numbersOfASort() {
        Check.ends("red", Town::busy, (x, v) -> x.sort(v, 1, 1, 1, 0, 0, -1), 0, 255, -1);
        Check.ends("green", Town::busy, (x, v) -> x.sort(1, v, 1, 1, 0, 0, -1), 0, 255, -1);
        Check.ends("blue", Town::busy, (x, v) -> x.sort(1, 1, v, 1, 0, 0, -1), 0, 255, -1);
        Check.ends("staple", Town::busy, (x, v) -> x.sort(1, 1, 1, v, 0, 0, -1), 1, 99, -1);
        Check.ends("least WOOL", Town::busy, (x, v) -> x.sort(1, 1, 1, 1, v, 1000, -1), 0, 1000, -1);
        Check.ends("most WOOL", Town::busy, (x, v) -> x.sort(1, 1, 1, 1, 0, v, -1), 0, 1000, -1);
        Check.is("its number", Town.busy().sort(255, 255, 255, 99, 1000, 1000, 4), 5);
        Check.refused("both WOOL above 1000", Town::busy, x -> x.sort(1, 1, 1, 1, 1001, 1001, -1), -1);
        Check.refused("both WOOL below 0", Town::busy, x -> x.sort(1, 1, 1, 1, -1, -1, -1), -1);
    }

    /** "least WOOL above most" */
    private static void leastAboveMost() {
        for (int most : new int[] {0, 1, 500, 999}) {
            Check.taken("least is most", Town::busy, x -> x.sort(1, 1, 1, 1, most, most, -1), -1);
            Check.refused("least above most", Town::busy, x -> x.sort(1, 1, 1, 1, most + 1, most, -1), -1);
        }
        Check.taken("least one below most", Town::busy, x -> x.sort(1, 1, 1, 1, 499, 500, -1), -1);
    }

    /** "a PARENT (a SORT told ahead, or NONE)" */
    private static void parentsToldAhead() {
        Check.ends("PARENT", Town::busy, (x, v) -> x.sort(1, 1, 1, 1, 0, 0, v), -1, 4, -1);
        RagTown x = Town.busy();
        Check.is("a part of the last", x.sort(1, 1, 1, 1, 0, 0, 4), 5);
        Check.is("it is that", x.within(5, 4), 1);
        Check.is("a refused one's number", x.sort(1, 1, 1, 1, 0, 0, 6), -1);
        Check.is("goes to the next", x.sort(1, 1, 1, 1, 0, 0, 5), 6);
    }

    /** "SORTS 0 .. (at most 16)" */
    private static void sixteenSorts() {
        Check.most("SORTS", 0, 16, 15, x -> x.sort(1, 1, 1, 1, 0, 0, 2));
        RagTown x = Town.withSorts(16);
        Check.is("the last one's PRICE", x.price(15, 0, 3), 1);
        Check.is("there", x.at(15, 0), 3);
        Check.is("none behind it", x.at(16, 0), -1);
    }

    /** "PRICES (pence a pound, 0 .. 999) of a SORT from a WEEK (0 .. 99) on" */
    private static void numbersOfAPrice() {
        Check.ends("SORT", Town::busy, (x, v) -> x.price(v, 0, 0), 0, 4, -1);
        Check.ends("WEEK", Town::busy, (x, v) -> x.price(0, v, 0), 0, 99, -1);
        Check.ends("pence", Town::busy, (x, v) -> x.price(0, 0, v), 0, 999, -1);
        RagTown x = Town.withSorts(1);
        Check.is("the first that was told", x.price(0, 99, 999), 1);
        Check.is("a refused one is not told", x.price(0, 99, 1000), -1);
        Check.is("the next", x.price(0, 0, 1), 2);
        Check.is("the last WEEK", x.at(0, 99), 999);
        Check.is("the WEEK ahead of it", x.at(0, 98), 1);
        Check.is("the first WEEK", x.at(0, 0), 1);
    }

    /** "at most 60 are told" */
    private static void sixtyPrices() {
        Check.most("PRICES", 1, 60, 60, x -> x.price(4, 99, 999));
        RagTown x = Town.withSorts(2);
        for (int i = 1; i <= 59; i++) {
            x.price(0, 0, i);
        }
        Check.is("the 60th", x.price(1, 7, 700), 60);
        Check.is("holds", x.at(1, 7), 700);
        Check.is("the 61st", x.price(1, 7, 701), -1);
        Check.is("holds not", x.at(1, 7), 700);
        Check.is("the 59th still", x.at(0, 99), 59);
    }

    private static void numbersOfAt() {
        Check.ends("SORT", Town::busy, (x, v) -> x.at(v, 99), 0, 4, -1);
        Check.ends("WEEK", Town::busy, (x, v) -> x.at(0, v), 0, 99, -1);
    }

    /** "0 without one" */
    private static void withoutAPrice() {
        RagTown x = Town.withSorts(3);
        x.price(1, 40, 9);
        Check.is("another SORT's", x.at(0, 99), 0);
        Check.is("another SORT's below", x.at(2, 99), 0);
        Check.is("a WEEK too early", x.at(1, 39), 0);
        Check.is("its WEEK", x.at(1, 40), 9);
        x.sort(1, 1, 1, 1, 0, 0, 1);
        Check.is("its PARENT's", x.at(3, 99), 0);
    }

    /** "the one of the greatest WEEK not above holds" */
    private static void greatestWeekNotAbove() {
        RagTown x = Town.withSorts(1);
        int[][] told = {{30, 3}, {10, 1}, {20, 2}};
        for (int[] t : told) {
            x.price(0, t[0], t[1]);
        }
        int[][] want = {{9, 0}, {10, 1}, {11, 1}, {19, 1}, {20, 2}, {29, 2}, {30, 3}, {31, 3}, {99, 3}};
        for (int[] w : want) {
            Check.is("WEEK " + w[0], x.at(0, w[0]), w[1]);
        }
        x.price(0, 0, 0);
        Check.is("told last, not the greatest WEEK", x.at(0, 99), 3);
        Check.is("a PRICE of 0", x.at(0, 9), 0);
    }

    /** "of equal ones the one told last" */
    private static void equalWeeks() {
        RagTown x = Town.withSorts(1);
        x.price(0, 50, 7);
        x.price(0, 50, 5);
        Check.is("told last", x.at(0, 50), 5);
        x.price(0, 49, 8);
        Check.is("a WEEK before", x.at(0, 50), 5);
        x.price(0, 50, 0);
        Check.is("told last, 0", x.at(0, 50), 0);
        Check.is("later on", x.at(0, 51), 0);
        Check.is("the WEEK before", x.at(0, 49), 8);
    }

    private static void numbersOfWithin() {
        Check.ends("SORT", Town::busy, (x, v) -> x.within(v, 0), 0, 4, -1);
        Check.ends("of", Town::busy, (x, v) -> x.within(0, v), 0, 4, -1);
        Check.refused("both none", Town::busy, x -> x.within(5, 5), -1);
        Check.refused("both NONE", Town::busy, x -> x.within(-1, -1), -1);
    }

    /** "of itself, too" */
    private static void ofItselfToo() {
        for (int s = 0; s < 5; s++) {
            Check.is("itself " + s, Town.busy().within(s, s), 1);
        }
    }

    /** "its PARENT, that one's, and so on" */
    private static void farUp() {
        RagTown x = new RagTown();
        for (int s = 0; s < 16; s++) {
            x.sort(1, 1, 1, 1, 0, 0, s - 1);
        }
        for (int s = 0; s < 16; s++) {
            Check.is("all of " + s, x.within(s, 0), 1);
            Check.is("the least is a part of " + s, x.within(15, s), 1);
            Check.is("the whole is a part of " + s, x.within(0, s), s == 0 ? 1 : 0);
        }
        RagTown y = Town.busy();
        int[][] want = {{1, 0, 0, 0, 0}, {1, 1, 0, 0, 0}, {1, 0, 1, 0, 0}, {1, 1, 0, 1, 0}, {0, 0, 0, 0, 1}};
        for (int a = 0; a < 5; a++) {
            for (int b = 0; b < 5; b++) {
                Check.is(a + " within " + b, y.within(a, b), want[a][b]);
            }
        }
    }
}
