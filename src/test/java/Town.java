import java.util.ArrayList;
import java.util.List;

/**
 * Towns for the tests, and all that can be seen of one. No town is asked more than 512 times: making one here takes
 * some 90 calls (more when it is filled), seeing it some 300.
 */
final class Town {
    private final RagTown x;
    private final List<String> lines = new ArrayList<>();

    private Town(RagTown x) {
        this.x = x;
    }

    /**
     * Some of everything: 5 SORTS (1, 2 of 0, 3 of 1), 7 PRICES, 4 BALES (the last not SORTED), 5 LOOKS, 2 CONTRACTS,
     * 2 RECIPES, the PAY, a BLEND of 12 PARTS, 2 CLOTHS (GOOD, BAD), 6 DOUBLES, 2 PACKS, 4 numbers in the ROW, 5 signs
     * on THE TAPE, AS 60.
     */
    static RagTown busy() {
        RagTown x = new RagTown();
        x.sort(10, 20, 30, 40, 0, 0, -1);
        x.sort(110, 120, 130, 20, 0, 5, 0);
        x.sort(200, 100, 0, 60, 900, 1000, 0);
        x.sort(1, 1, 1, 9, 100, 100, 1);
        x.sort(255, 255, 255, 99, 0, 0, -1);
        int[][] prices = {{0, 5, 10}, {0, 5, 12}, {0, 50, 20}, {1, 0, 7}, {2, 0, 9}, {3, 99, 11}, {4, 0, 1}};
        for (int[] p : prices) {
            x.price(p[0], p[1], p[2]);
        }
        x.bale(0, 3, 2000, 50);
        x.bale(1, 0, 3000, 10);
        x.bale(3, 7, 2500, 999);
        x.bale(3, 0, 100, 5);
        x.open(0, 0, 1, 5, 300, 10);
        x.open(1, 5, 1, 5, 500, -20);
        x.open(2, 0, 2, 5, 400, 5);
        x.look(0, 0, 10, 1900, 100);
        x.look(0, 1, 20, 1950, 50);
        x.look(1, 0, 0, 3000, 0);
        x.look(3, 1, 60, 80, 10);
        x.look(3, 0, 5, 90, 0);
        x.as(60);
        workTheStore(x);
        tellTheRest(x);
        return x;
    }

    private static void workTheStore(RagTown x) {
        Check.text(x, 0, 0, "l+d+k");
        Check.text(x, 0, 3, "q*9+l");
        Check.text(x, 1, 0, "n>1;m<9");
        Check.text(x, 1, 0, "r>90");
        Check.text(x, 2, 0, "p+z*2+n+e");
        x.part(0, 4);
        x.part(2, 4);
        x.part(4, 4);
        x.make(120);
        x.make(840);
        x.fault(0, 0);
        x.fault(1, 1);
        x.wipe(3, 100, 500);
        x.fire(10);
    }

    private static void tellTheRest(RagTown x) {
        int[][] doubles = {{0, 0, 1, 0}, {1, 1, 2, 2}, {2, 0, 3, 0}, {3, 4, 4, 4}, {4, 1, 5, 2}, {5, 4, 0, 4}};
        for (int[] d : doubles) {
            x.twice(d[0], d[1], d[2], d[3]);
        }
        x.wish(0, 0, 9);
        x.wish(0, 1, -1);
        x.wish(1, 2, 5);
        x.wish(3, 4, 999);
        x.takes(0, 1);
        x.takes(3, 8);
        x.pack(0, 100, 1, 50);
        x.pack(4, 60, 0, 0);
        Check.tape(x, "z-p*2");
        x.led(1);
    }

    /** A busy town in which a call was made again and again until count(which) was so many. */
    static RagTown filled(int which, int many, Check.Act more) {
        RagTown x = busy();
        for (int i = 0; i < 100 && x.count(which) < many; i++) {
            more.on(x);
        }
        return x;
    }

    static RagTown bare() {
        return new RagTown();
    }

    /** So many SORTS, none of them a part of another, with nothing else. */
    static RagTown withSorts(int n) {
        RagTown x = new RagTown();
        for (int i = 0; i < n; i++) {
            x.sort(1, 1, 1, 1, 0, 10, -1);
        }
        return x;
    }

    /** All that can be seen of a town; the last looks change it. */
    static List<String> seen(RagTown x) {
        Town town = new Town(x);
        town.counts();
        town.sorts();
        town.bales();
        town.sorters();
        town.blend();
        town.rows();
        town.lands();
        town.tapeAndLots();
        return town.lines;
    }

    private void add(String what, int v) {
        lines.add(what + " " + v);
    }

    private void row(String what) {
        for (int i = 0; i < x.count(9) && i < 12; i++) {
            add(what + " row " + i, x.row(i));
        }
    }

    /** The first five and the last of so many. */
    private static List<Integer> some(int many) {
        List<Integer> all = new ArrayList<>();
        for (int i = 0; i < many; i++) {
            if (i < 5 || i == many - 1) {
                all.add(i);
            }
        }
        return all;
    }

    private void counts() {
        for (int what = 0; what <= 12; what++) {
            add("count " + what, x.count(what));
        }
        row("the");
    }

    private void sorts() {
        for (int s : some(x.count(0))) {
            add("at 0 of " + s, x.at(s, 0));
            add("at 60 of " + s, x.at(s, 60));
            add("at 99 of " + s, x.at(s, 99));
            add("store of " + s, x.store(s, 0));
            add("store within " + s, x.store(s, 1));
            add("within 1 is " + s, x.within(s, 1));
        }
    }

    private void bales() {
        for (int b : some(x.count(2))) {
            for (int what = 0; what <= 5; what++) {
                add("of " + b + " what " + what, x.of(b, what));
            }
            add("off by us of " + b, x.off(b, 0));
            add("off by the SELLER of " + b, x.off(b, 1));
            add("due of " + b, x.due(b));
        }
    }

    private void sorters() {
        for (int a = 0; a < 6; a++) {
            add("pay of " + a, x.pay(a));
            add("eye of " + a, x.eye(a));
            add("met " + a, x.met(a, (a + 1) % 6));
            add("called 4 by " + a, x.called(a, 4));
        }
    }

    private void blend() {
        for (int r : some(x.count(4))) {
            add("judge " + r, x.judge(r));
        }
        add("cost", x.cost(60));
        for (int p : some(x.count(8))) {
            add("gives 0 for " + p, x.gives(0, p));
            add("gives 3 for " + p, x.gives(3, p));
        }
    }

    private void rows() {
        for (int c : some(x.count(6))) {
            add("led " + c, x.led(c));
            row("led " + c);
        }
        add("foretell", x.foretell(3, -1, 0));
        row("foretell");
        add("ring", x.ring(2));
        row("ring");
        add("suspects", x.suspects());
        row("suspects");
        add("share", x.share());
        row("share");
        for (int c : some(x.count(6))) {
            add("fault " + c, x.fault(c, 2));
        }
    }

    private void lands() {
        for (int land = 0; land < 4; land++) {
            add("takes of " + land, x.takes(land, 0));
            for (int s : some(x.count(0))) {
                add("wish of " + land + " for " + s, x.wish(land, s, 0));
            }
        }
    }

    private void tapeAndLots() {
        add("text", x.text(2, 0));
        add("pay by THE TAPE", x.pay(0));
        add("as", x.as(99));
        for (int s : some(x.count(0))) {
            add("part of " + s, x.part(s, 0));
            add("wipe of " + s, x.wipe(s, x.store(s, 0) / 2, 0));
        }
        for (int b : some(x.count(2))) {
            add("what is left of " + b, x.of(b, 3));
        }
    }
}
