/** Promises 1 to 5: a new object, sort, price, at, within. */
final class SortsTest {
    public static void main(String[] args) {
        newObject();
        sorts();
        prices();
        parts();
        Check.finish();
    }

    private static void newObject() {
        RagTown x = new RagTown();
        for (int what = 0; what <= 12; what++) {
            Check.is("new count(" + what + ")", x.count(what), what == 11 ? 99 : 0);
        }
        Check.is("count(13)", x.count(13), -1);
        Check.is("count(-1)", x.count(-1), -1);
        Check.row("new", x);
        Check.is("new at", x.at(0, 0), -1);
        Check.is("new store", x.store(0, 0), -1);
        Check.is("new of", x.of(0, 0), -1);
        Check.is("new pay", x.pay(0), 0);
        Check.is("new suspects", x.suspects(), 0);
        Check.is("new share", x.share(), 0);
        Check.is("NONE", RagTown.NONE, -1);
    }

    private static void sorts() {
        RagTown x = new RagTown();
        int[] low = {0, 0, 0, 1, 0, 0, -1};
        int[] high = {255, 255, 255, 99, 1000, 1000, -1};
        for (int i = 0; i < 7; i++) {
            int[] v = low.clone();
            v[i]--;
            Check.is("sort below in " + i, add(x, v), -1);
            v = high.clone();
            v[i] = i == 6 ? 0 : v[i] + 1;
            Check.is("sort above in " + i, add(x, v), -1);
        }
        Check.is("least above most", x.sort(0, 0, 0, 1, 6, 5, -1), -1);
        Check.is("none was made", x.count(0), 0);
        Check.is("lowest", add(x, low), 0);
        Check.is("highest", add(x, high), 1);
        Check.is("its own parent", x.sort(0, 0, 0, 1, 0, 0, 2), -1);
        Check.is("least is most", x.sort(0, 0, 0, 1, 5, 5, 1), 2);
        for (int i = 3; i < 16; i++) {
            Check.is("sort " + i, x.sort(1, 2, 3, 4, 5, 6, i - 1), i);
        }
        Check.is("the 17th", add(x, low), -1);
        Check.is("16 SORTS", x.count(0), 16);
        Check.is("a long way up", x.within(15, 1), 1);
    }

    private static int add(RagTown x, int[] v) {
        return x.sort(v[0], v[1], v[2], v[3], v[4], v[5], v[6]);
    }

    private static void prices() {
        RagTown x = new RagTown();
        Check.is("price without a SORT", x.price(0, 0, 0), -1);
        x.sort(1, 1, 1, 1, 0, 0, -1);
        x.sort(1, 1, 1, 1, 0, 0, -1);
        Check.is("at without a PRICE", x.at(0, 99), 0);
        Check.is("price week -1", x.price(0, -1, 0), -1);
        Check.is("price week 100", x.price(0, 100, 0), -1);
        Check.is("price pence -1", x.price(0, 0, -1), -1);
        Check.is("price pence 1000", x.price(0, 0, 1000), -1);
        Check.is("price sort -1", x.price(-1, 0, 1), -1);
        Check.is("first price", x.price(0, 50, 999), 1);
        Check.is("an earlier one told later", x.price(0, 10, 7), 2);
        Check.is("of another SORT", x.price(1, 60, 3), 3);
        Check.is("at 9", x.at(0, 9), 0);
        Check.is("at 10", x.at(0, 10), 7);
        Check.is("at 49", x.at(0, 49), 7);
        Check.is("at 50", x.at(0, 50), 999);
        Check.is("at 99", x.at(0, 99), 999);
        Check.is("at -1", x.at(0, -1), -1);
        Check.is("at 100", x.at(0, 100), -1);
        Check.is("at sort 2", x.at(2, 0), -1);
        Check.is("at sort -1", x.at(-1, 0), -1);
        Check.is("told again", x.price(0, 50, 0), 4);
        Check.is("the last told holds", x.at(0, 50), 0);
        Check.is("the last told holds later too", x.at(0, 99), 0);
        for (int i = 5; i <= 60; i++) {
            Check.is("price " + i, x.price(1, 0, 5), i);
        }
        Check.is("the 61st", x.price(1, 0, 6), -1);
        Check.is("60 PRICES", x.count(1), 60);
        Check.is("of the second SORT", x.at(1, 0), 5);
    }

    private static void parts() {
        RagTown x = new RagTown();
        x.sort(1, 1, 1, 1, 0, 0, -1);
        x.sort(1, 1, 1, 1, 0, 0, 0);
        x.sort(1, 1, 1, 1, 0, 0, 1);
        x.sort(1, 1, 1, 1, 0, 0, 0);
        int[][] want = {{1, 0, 0, 0}, {1, 1, 0, 0}, {1, 1, 1, 0}, {1, 0, 0, 1}};
        for (int a = 0; a < 4; a++) {
            for (int b = 0; b < 4; b++) {
                Check.is("within(" + a + ", " + b + ")", x.within(a, b), want[a][b]);
            }
        }
        Check.is("within(4, 0)", x.within(4, 0), -1);
        Check.is("within(0, 4)", x.within(0, 4), -1);
        Check.is("within(-1, 0)", x.within(-1, 0), -1);
        Check.is("within(0, -1)", x.within(0, -1), -1);
    }
}
