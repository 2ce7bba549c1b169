/** Promises 31 to 35: twice, eye, met, called, ring. */
final class SortersTest {
    public static void main(String[] args) {
        doubles();
        eyes();
        calls();
        rings();
        Check.finish();
    }

    private static RagTown withSorts(int n) {
        RagTown x = new RagTown();
        for (int i = 0; i < n; i++) {
            x.sort(1, 1, 1, 1, 0, 0, -1);
        }
        return x;
    }

    private static void doubles() {
        RagTown x = withSorts(2);
        Check.is("a -1", x.twice(-1, 0, 1, 0), -1);
        Check.is("a 6", x.twice(6, 0, 1, 0), -1);
        Check.is("b -1", x.twice(1, 0, -1, 0), -1);
        Check.is("b 6", x.twice(1, 0, 6, 0), -1);
        Check.is("one alone", x.twice(3, 0, 3, 1), -1);
        Check.is("x 2", x.twice(0, 2, 1, 0), -1);
        Check.is("x -1", x.twice(0, -1, 1, 0), -1);
        Check.is("y 2", x.twice(0, 0, 1, 2), -1);
        Check.is("y -1", x.twice(0, 0, 1, -1), -1);
        for (int i = 1; i <= 99; i++) {
            Check.is("twice " + i, x.twice(5, 1, 0, 1), i);
        }
        Check.is("the 100th", x.twice(5, 1, 0, 1), -1);
        Check.is("99 DOUBLES", x.count(7), 99);
    }

    private static void eyes() {
        RagTown x = withSorts(3);
        Check.is("eye -1", x.eye(-1), -1);
        Check.is("eye 6", x.eye(6), -1);
        Check.is("eye without a DOUBLE", x.eye(0), -1);
        x.twice(0, 1, 1, 1);
        x.twice(1, 0, 0, 2);
        x.twice(0, 2, 1, 2);
        x.twice(2, 0, 0, 1);
        Check.is("eye 0", x.eye(0), 500);
        Check.is("eye 1", x.eye(1), 666);
        Check.is("eye 2", x.eye(2), 0);
        Check.is("met 0, 1", x.met(0, 1), 666);
        Check.is("met 1, 0", x.met(1, 0), 666);
        Check.is("met 0, 2", x.met(0, 2), 0);
        Check.is("met 1, 2", x.met(1, 2), -1);
        Check.is("met itself", x.met(0, 0), -1);
        Check.is("met 0, 6", x.met(0, 6), -1);
        Check.is("met -1, 0", x.met(-1, 0), -1);
        Check.is("met 0, -1", x.met(0, -1), -1);
    }

    private static void calls() {
        RagTown x = withSorts(4);
        Check.is("never", x.called(0, 0), -1);
        x.twice(0, 0, 1, 3);
        x.twice(2, 1, 0, 0);
        Check.is("the least of equal ones", x.called(0, 0), 1);
        x.twice(3, 3, 0, 0);
        Check.is("most often", x.called(0, 0), 3);
        Check.is("the other way", x.called(1, 3), 0);
        Check.is("another's call", x.called(0, 3), -1);
        Check.is("sorter 6", x.called(6, 0), -1);
        Check.is("sorter -1", x.called(-1, 0), -1);
        Check.is("sort 4", x.called(0, 4), -1);
        Check.is("sort -1", x.called(0, -1), -1);
    }

    private static void rings() {
        RagTown x = withSorts(1);
        Check.is("ring alone", x.ring(3), 1);
        Check.row("ring alone", x, 3);
        x.twice(5, 0, 4, 0);
        x.twice(4, 0, 2, 0);
        x.twice(2, 0, 0, 0);
        Check.is("a way of three", x.ring(0), 4);
        Check.row("a way of three", x, 0, 2, 4, 5);
        Check.is("from its other end", x.ring(5), 4);
        Check.row("from its other end", x, 0, 2, 4, 5);
        Check.is("still alone", x.ring(1), 1);
        Check.row("still alone", x, 1);
        Check.is("ring -1", x.ring(-1), -1);
        Check.is("ring 6", x.ring(6), -1);
        Check.row("refused ones leave the ROW", x, 1);
        x.twice(1, 0, 3, 0);
        Check.is("another ring", x.ring(3), 2);
        Check.row("another ring", x, 1, 3);
        x.twice(0, 0, 3, 0);
        Check.is("all", x.ring(1), 6);
        Check.row("all", x, 0, 1, 2, 3, 4, 5);
    }
}
