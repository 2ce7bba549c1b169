/** Promises 36 to 42: wish, takes, pack, gives, share, count, row. */
final class LandsTest {
    public static void main(String[] args) {
        wishes();
        rooms();
        packs();
        gifts();
        shares();
        equalShares();
        counts();
        Check.finish();
    }

    /** Three SORTS with 1000, 800, 600 pounds in the STORE, of two BALES. */
    private static RagTown town() {
        RagTown x = new RagTown();
        for (int i = 0; i < 3; i++) {
            x.sort(1, 1, 1, 1, 0, 0, -1);
        }
        x.bale(0, 0, 5000, 1);
        x.bale(0, 0, 5000, 1);
        x.open(0, 0, 2, 3, 500, -100);
        x.open(1, 0, 2, 3, 500, -100);
        return x;
    }

    private static void wishes() {
        RagTown x = town();
        Check.is("at first", x.wish(3, 2, 999), 0);
        Check.is("then", x.wish(3, 2, -1), 999);
        Check.is("BARRED", x.wish(3, 2, 0), -1);
        Check.is("another", x.wish(3, 1, 5), 0);
        Check.noSuchElement("land -1", () -> x.wish(-1, 0, 0));
        Check.noSuchElement("land 4", () -> x.wish(4, 0, 0));
        Check.noSuchElement("sort -1", () -> x.wish(0, -1, 0));
        Check.noSuchElement("sort 3", () -> x.wish(0, 3, 0));
        Check.noSuchElement("pence -2", () -> x.wish(3, 1, -2));
        Check.noSuchElement("pence 1000", () -> x.wish(3, 1, 1000));
        Check.is("refused ones change nothing", x.wish(3, 1, 6), 5);
    }

    private static void rooms() {
        RagTown x = town();
        Check.is("takes at first", x.takes(0, 8), 0);
        Check.is("takes then", x.takes(0, 0), 8);
        Check.is("takes 9", x.takes(0, 9), -1);
        Check.is("takes -1", x.takes(0, -1), -1);
        Check.is("land -1", x.takes(-1, 1), -1);
        Check.is("land 4", x.takes(4, 1), -1);
        Check.is("takes stays", x.takes(0, 1), 0);
    }

    private static void packs() {
        RagTown x = town();
        Check.is("p 0", x.pack(0, 0, 1, 1), -1);
        Check.is("p 10000", x.pack(0, 10000, 1, 1), -1);
        Check.is("q -1", x.pack(0, 1, 1, -1), -1);
        Check.is("q 10000", x.pack(0, 1, 1, 10000), -1);
        Check.is("sort -1", x.pack(-1, 1, 1, 1), -1);
        Check.is("sort 3", x.pack(3, 1, 1, 1), -1);
        Check.is("other -1", x.pack(0, 1, -1, 1), -1);
        Check.is("other 3", x.pack(0, 1, 3, 1), -1);
        Check.is("twice one SORT", x.pack(0, 1, 0, 1), -1);
        Check.is("too much", x.pack(0, 1001, 1, 1), -1);
        Check.is("too much of the other", x.pack(0, 1, 1, 801), -1);
        Check.is("nothing TAKEN", x.store(0, 0) + x.store(1, 0), 1800);
        Check.is("no PACK", x.count(8), 0);
        Check.is("two SORTS", x.pack(0, 600, 1, 700), 0);
        Check.is("TAKEN of the first LOTS first", x.of(0, 3), 300);
        Check.is("then of the next", x.of(1, 3), 1200 - 100 - 300);
        Check.is("lost", x.of(0, 5), 900);
        Check.is("lost of the next", x.of(1, 5), 400);
        Check.is("q 0, twice one SORT", x.pack(0, 1, 0, 0), 1);
        Check.is("q 0, none such", x.pack(0, 1, 77, 0), 2);
        Check.is("q 0, below 0", x.pack(0, 1, -5, 0), 3);
        for (int i = 4; i < 8; i++) {
            Check.is("pack " + i, x.pack(2, 10, 1, 1), i);
        }
        Check.is("the ninth", x.pack(2, 10, 1, 1), -1);
        Check.is("8 PACKS", x.count(8), 8);
        Check.is("left of 2", x.store(2, 0), 560);
    }

    private static void gifts() {
        RagTown x = town();
        Check.is("no PACK", x.gives(0, 0), -1);
        x.pack(0, 100, 1, 10);
        x.pack(2, 7, 1, 0);
        Check.is("no WISH", x.gives(0, 0), 0);
        x.wish(0, 0, 3);
        x.wish(0, 1, 20);
        Check.is("two SORTS", x.gives(0, 0), 500);
        x.wish(0, 1, -1);
        Check.is("the other BARRED", x.gives(0, 0), -2);
        Check.is("it is not in this one", x.gives(0, 1), 0);
        x.wish(0, 1, 0);
        x.wish(0, 0, -1);
        Check.is("the first BARRED", x.gives(0, 0), -2);
        Check.is("another LAND", x.gives(1, 0), 0);
        Check.is("land -1", x.gives(-1, 0), -1);
        Check.is("land 4", x.gives(4, 0), -1);
        Check.is("pack -1", x.gives(0, -1), -1);
        Check.is("pack 2", x.gives(0, 2), -1);
    }

    private static void shares() {
        RagTown x = town();
        Check.is("no PACK", x.share(), 0);
        Check.row("no PACK", x);
        x.pack(0, 10, 1, 0);
        x.pack(1, 10, 1, 0);
        x.pack(0, 9, 1, 9);
        Check.is("none takes one", x.share(), 0);
        Check.row("none takes one", x, -1, -1, -1);
        x.takes(2, 1);
        Check.is("no WISH", x.share(), 0);
        Check.row("the first row of equal ones", x, 2, -1, -1);
        x.wish(2, 0, 5);
        x.wish(2, 1, 6);
        Check.is("one", x.share(), 99);
        Check.row("one", x, -1, -1, 2);
        x.takes(0, 2);
        x.wish(0, 0, 4);
        Check.is("to two LANDS", x.share(), 40 + 99);
        Check.row("to two LANDS", x, 0, 0, 2);
        x.wish(2, 1, -1);
        Check.is("BARRED", x.share(), 50 + 0 + 36);
        Check.row("BARRED", x, 2, 0, 0);
        x.wish(0, 1, -1);
        x.takes(0, 8);
        x.takes(2, 8);
        Check.is("some go nowhere", x.share(), 50);
        Check.row("some go nowhere", x, 2, -1, -1);
    }

    private static void equalShares() {
        RagTown x = town();
        for (int i = 0; i < 8; i++) {
            x.pack(0, 10, 0, 0);
        }
        for (int land = 0; land < 4; land++) {
            x.takes(land, 2);
            x.wish(land, 0, 7);
        }
        Check.is("all equal", x.share(), 560);
        Check.row("all equal", x, 0, 0, 1, 1, 2, 2, 3, 3);
        x.takes(1, 1);
        x.takes(3, 0);
        Check.is("room for five", x.share(), 350);
        Check.row("room for five", x, 0, 0, 1, 2, 2, -1, -1, -1);
        x.wish(2, 0, 8);
        Check.is("one gives more", x.share(), 160 + 210);
        Check.row("one gives more", x, 0, 0, 1, 2, 2, -1, -1, -1);
        x.takes(0, 8);
        Check.is("room for all", x.share(), 160 + 420);
        Check.row("room for all", x, 0, 0, 0, 0, 0, 0, 2, 2);
        RagTown y = new RagTown();
        y.sort(1, 1, 1, 1, 0, 0, -1);
        y.sort(1, 1, 1, 1, 0, 0, -1);
        for (int i = 0; i < 16; i++) {
            y.bale(0, 0, 9999, 0);
            y.open(i, 0, 2, i % 2 + 1, i % 2 == 0 ? 9999 : 0, 9999);
        }
        for (int i = 0; i < 8; i++) {
            Check.is("much", y.pack(0, 9999, 1, 9999), i);
        }
        y.takes(3, 8);
        y.wish(3, 0, 999);
        y.wish(3, 1, 999);
        Check.is("most of all", y.share(), 8 * 2 * 9999 * 999);
        Check.row("most of all", y, 3, 3, 3, 3, 3, 3, 3, 3);
    }

    private static void counts() {
        RagTown x = town();
        x.price(0, 0, 1);
        x.price(0, 0, 1);
        x.bale(0, 0, 1, 1);
        x.look(0, 0, 0, 0, 0);
        Check.text(x, 1, 0, "1");
        x.part(0, 12);
        x.make(12);
        x.make(12);
        x.twice(0, 0, 1, 0);
        x.pack(0, 1, 0, 0);
        x.ring(0);
        x.sign(0);
        x.as(42);
        int[] want = {3, 2, 3, 1, 1, 6, 2, 1, 1, 2, 4, 42, 12};
        for (int what = 0; what <= 12; what++) {
            Check.is("count(" + what + ")", x.count(what), want[what]);
        }
        Check.is("count(-1)", x.count(-1), -1);
        Check.is("count(13)", x.count(13), -1);
        Check.row("ring", x, 0, 1);
    }
}
