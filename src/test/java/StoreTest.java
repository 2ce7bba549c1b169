/** Promises 17 to 21: store, fire, moth, wipe, split. */
final class StoreTest {
    public static void main(String[] args) {
        store();
        fires();
        moths();
        wipers();
        splits();
        fullTown();
        Check.finish();
    }

    /** SORT 1 and 2 are parts of 0, 3 of 1; three BALES with 40, 30, 20, 10 pounds of them and 20, 15, 10, 5 .. */
    private static RagTown town() {
        RagTown x = new RagTown();
        x.sort(1, 1, 1, 1, 0, 0, -1);
        x.sort(1, 1, 1, 1, 0, 0, 0);
        x.sort(1, 1, 1, 1, 0, 0, 0);
        x.sort(1, 1, 1, 1, 0, 0, 1);
        x.bale(0, 0, 1000, 1);
        x.bale(1, 0, 1000, 1);
        x.bale(2, 0, 1000, 1);
        x.open(0, 0, 0, 4, 40, -10);
        x.open(1, 0, 0, 4, 20, -5);
        x.open(2, 0, 0, 2, 0, 7);
        return x;
    }

    private static void store() {
        RagTown x = town();
        int[] alone = {60, 52, 30, 15};
        int[] within = {157, 67, 30, 15};
        for (int s = 0; s < 4; s++) {
            Check.is("alone " + s, x.store(s, 0), alone[s]);
            Check.is("within " + s, x.store(s, 1), within[s]);
        }
        Check.is("LOTS", x.count(5), 9);
        Check.is("store -1", x.store(-1, 0), -1);
        Check.is("store 4", x.store(4, 0), -1);
        Check.is("what -1", x.store(0, -1), -1);
        Check.is("what 2", x.store(0, 2), -1);
    }

    private static void fires() {
        RagTown x = town();
        Check.is("fire -1", x.fire(-1), -1);
        Check.is("fire 1001", x.fire(1001), -1);
        Check.is("fire 0", x.fire(0), 0);
        Check.is("nothing burnt", x.store(0, 1), 157);
        Check.is("a small one takes a pound of each LOT", x.fire(1), 9);
        Check.is("left of the last BALE", x.of(2, 3), 6);
        Check.is("lost of the last BALE", x.of(2, 5), 1);
        // 39 29 19 9, 19 14 9 4, 6
        Check.is("rounded up", x.fire(250), 10 + 8 + 5 + 3 + 5 + 4 + 3 + 1 + 2);
        Check.is("of sort 0", x.store(0, 0), 29 + 14);
        Check.is("the rest", x.fire(1000), 148 - 41);
        Check.is("no LOT", x.count(5), 0);
        Check.is("nothing left", x.fire(1000), 0);
        Check.is("lost of the first", x.of(0, 5), 100);
        RagTown y = new RagTown();
        y.sort(1, 1, 1, 1, 0, 0, -1);
        y.bale(0, 0, 1001, 1);
        y.open(0, 0, 1, 1, 1001, 0);
        Check.is("a thousandth of a pound is one", y.fire(1), 2);
    }

    private static void moths() {
        RagTown x = town();
        Check.is("moth -1", x.moth(-1), -1);
        Check.is("moth 3", x.moth(3), -1);
        Check.is("moth 1", x.moth(1), 50);
        Check.is("moth 1 again", x.moth(1), 0);
        Check.is("store of 0", x.store(0, 0), 40);
        Check.is("LOTS", x.count(5), 5);
        Check.is("lost", x.of(1, 5), 50);
        Check.is("others lost none", x.of(0, 5), 0);
    }

    private static void wipers() {
        RagTown x = town();
        Check.is("wipe p 0", x.wipe(0, 0, 1000), -1);
        Check.is("wipe p 10000", x.wipe(0, 10000, 1000), -1);
        Check.is("wipe y -1", x.wipe(0, 1, -1), -1);
        Check.is("wipe y 1001", x.wipe(0, 1, 1001), -1);
        Check.is("wipe sort -1", x.wipe(-1, 1, 1), -1);
        Check.is("wipe sort 4", x.wipe(4, 1, 1), -1);
        Check.is("not what is within", x.wipe(0, 61, 1), -1);
        Check.is("nothing TAKEN", x.store(0, 1), 157);
        Check.is("cut", x.wipe(0, 45, 999), 44);
        Check.is("first LOTS first", x.of(0, 3), 60);
        Check.is("then the next", x.of(1, 3), 45);
        Check.is("lost of 1", x.of(1, 5), 5);
        Check.is("all the rest", x.wipe(0, 15, 0), 0);
        Check.is("none left", x.wipe(0, 1, 0), -1);
        Check.is("another SORT stays", x.store(1, 0), 52);
        Check.is("most of it", x.wipe(1, 52, 1000), 52);
        RagTown y = new RagTown();
        y.sort(1, 1, 1, 1, 0, 0, -1);
        y.bale(0, 0, 9999, 1);
        y.open(0, 0, 1, 1, 9999, 0);
        Check.is("most pounds", y.wipe(0, 9999, 1000), 9999);
    }

    private static void splits() {
        RagTown x = town();
        x.price(0, 10, 10);
        x.price(1, 20, 30);
        x.price(2, 10, 1);
        x.price(3, 0, 999);
        Check.is("in week 9", x.split(0, 9), 0);
        Check.is("in week 10: less", x.split(0, 10), 60 * 30 / 82 - 600);
        Check.is("in week 20", x.split(0, 20), 60 * 52 / 82 * 30 + 60 * 30 / 82 - 600);
        x.fire(1000);
        Check.is("an empty STORE", x.split(0, 20), 0);
        Check.is("of one part", x.split(1, 20), 0);
        Check.noSuchElement("none has it as its PARENT", () -> x.split(3, 0));
        Check.noSuchElement("split -1", () -> x.split(-1, 0));
        Check.noSuchElement("split 4", () -> x.split(4, 0));
        Check.noSuchElement("week -1", () -> x.split(0, -1));
        Check.noSuchElement("week 100", () -> x.split(0, 100));
        RagTown y = new RagTown();
        y.sort(1, 1, 1, 1, 0, 0, -1);
        y.sort(1, 1, 1, 1, 0, 0, 0);
        y.sort(1, 1, 1, 1, 0, 0, 1);
        y.price(1, 0, 3);
        y.price(2, 0, 100);
        for (int i = 0; i < 24; i++) {
            y.bale(0, 0, 9999, 0);
            y.open(i, 0, 2, 2, 5000, -1);
        }
        Check.is("many pounds by longs", y.split(0, 0), 24 * 5000 * 3);
        Check.noSuchElement("its part was never found", () -> y.split(1, 0));
        y.price(0, 0, 4);
        Check.is("dearer unsplit", y.split(0, 0), -24 * 5000);
    }

    /** As much of everything as there can be at once. */
    private static void fullTown() {
        RagTown x = new RagTown();
        for (int s = 0; s < 16; s++) {
            x.sort(255, 255, 255, 99, 1000, 1000, s - 1);
        }
        for (int b = 0; b < 24; b++) {
            x.bale(b % 4, b % 8, 9999, 999);
            Check.is("open " + b, x.open(b, b % 6, 1, 16, 600, 0), 399);
        }
        Check.is("all LOTS", x.count(5), 384);
        Check.is("all pounds", x.store(0, 1), 384 * 600);
        for (int s = 0; s < 12; s++) {
            x.part(s, 1);
        }
        Check.is("all BALES burn", x.fire(990), 384 * 594);
        Check.is("a CLOTH of all BALES", x.make(12 * 24 * 6), 0);
        Check.is("led to all", x.led(0), 24);
        Check.is("numbers of the ROW", x.count(9), 48);
        Check.is("the last BALE", x.row(46), 23);
        Check.is("its pounds", x.row(47), 72);
        x.fault(0, 1);
        Check.is("the first of all", x.suspects(), 1);
        Check.row("the first of all", x, 0);
        Check.is("LOTS left", x.count(5), 96);
        Check.is("lost of the last", x.of(23, 5), 16 * 594);
    }
}
