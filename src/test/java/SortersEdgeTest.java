/** Promises 31 to 35, sentence by sentence. */
final class SortersEdgeTest {
    public static void main(String[] args) {
        numbersOfTwice();
        oneAlone();
        ninetyNine();
        numbersOfEye();
        inAThousand();
        numbersOfMet();
        ofTwo();
        numbersOfCalled();
        mostOften();
        leastOfEqualOnes();
        numbersOfRing();
        hangTogether();
        Check.finish();
    }

    private static void numbersOfTwice() {
        Check.ends("one SORTER", Town::busy, (x, v) -> x.twice(v, 0, v == 0 ? 1 : 0, 0), 0, 5, -1);
        Check.ends("the other SORTER", Town::busy, (x, v) -> x.twice(v == 0 ? 1 : 0, 0, v, 0), 0, 5, -1);
        Check.ends("one SORT", Town::busy, (x, v) -> x.twice(0, v, 1, 0), 0, 4, -1);
        Check.ends("the other SORT", Town::busy, (x, v) -> x.twice(0, 0, 1, v), 0, 4, -1);
        Check.is("how many", Town.busy().twice(5, 4, 4, 0), 7);
    }

    /** "Refused: .. one alone" */
    private static void oneAlone() {
        for (int s = 0; s < 6; s++) {
            int sorter = s;
            Check.refused("one alone, alike " + s, Town::busy, x -> x.twice(sorter, 2, sorter, 2), -1);
            Check.refused("one alone " + s, Town::busy, x -> x.twice(sorter, 0, sorter, 4), -1);
            Check.is("with the next " + s, Town.busy().twice(s, 0, (s + 1) % 6, 0), 7);
        }
        Check.refused("twice one that is none", Town::busy, x -> x.twice(6, 0, 6, 0), -1);
    }

    /** "Refused: .. 99." */
    private static void ninetyNine() {
        Check.most("DOUBLES", 7, 99, 99, x -> x.twice(5, 4, 0, 3));
        RagTown x = Town.withSorts(1);
        for (int i = 1; i <= 98; i++) {
            x.twice(0, 0, 1, 0);
        }
        Check.is("not MET as yet", x.met(4, 5), -1);
        Check.is("the 99th", x.twice(4, 0, 5, 0), 99);
        Check.is("MET", x.met(4, 5), 1000);
        Check.is("the 100th", x.twice(3, 0, 5, 0), -1);
        Check.is("not MET", x.met(3, 5), -1);
        Check.is("nor an EYE", x.eye(3), -1);
    }

    private static void numbersOfEye() {
        Check.ends("SORTER", Town::busy, RagTown::eye, 0, 5, -1);
        RagTown x = Town.withSorts(1);
        x.twice(1, 0, 4, 0);
        for (int s = 0; s < 6; s++) {
            Check.is("no DOUBLE " + s, x.eye(s), s == 1 || s == 4 ? 1000 : -1);
        }
    }

    /** "of its DOUBLES how many in 1000 (cut) were called alike" */
    private static void inAThousand() {
        int[][] some = {{0, 1}, {1, 1}, {1, 2}, {1, 3}, {2, 3}, {0, 99}, {1, 99}, {98, 99}, {99, 99}, {6, 7}, {50, 99}};
        for (int[] s : some) {
            RagTown x = Town.withSorts(3);
            for (int i = 0; i < s[1]; i++) {
                x.twice(i % 2 == 0 ? 3 : 5, 2, i % 2 == 0 ? 5 : 3, i < s[0] ? 2 : 1);
            }
            int want = s[0] * 1000 / s[1];
            Check.is(s[0] + " of " + s[1], x.eye(3), want);
            Check.is(s[0] + " of " + s[1] + ", the other", x.eye(5), want);
            Check.is(s[0] + " of " + s[1] + ", MET", x.met(3, 5), want);
            Check.is(s[0] + " of " + s[1] + ", MET the other way", x.met(5, 3), want);
        }
    }

    private static void numbersOfMet() {
        Check.ends("one SORTER", SortersEdgeTest::allMet, (x, v) -> x.met(v, v == 0 ? 1 : 0), 0, 5, -1);
        Check.ends("the other SORTER", SortersEdgeTest::allMet, (x, v) -> x.met(v == 0 ? 1 : 0, v), 0, 5, -1);
        for (int s = 0; s < 6; s++) {
            int sorter = s;
            Check.refused("met itself " + s, SortersEdgeTest::allMet, x -> x.met(sorter, sorter), -1);
        }
        Check.refused("not MET", Town::busy, x -> x.met(0, 2), -1);
        Check.refused("both NONE", Town::busy, x -> x.met(-1, -1), -1);
    }

    private static RagTown allMet() {
        RagTown x = Town.busy();
        for (int a = 0; a < 6; a++) {
            for (int b = a + 1; b < 6; b++) {
                x.twice(a, 0, b, 1);
            }
        }
        return x;
    }

    /** "Of two SORTERS how many of their DOUBLES": of none with a third */
    private static void ofTwo() {
        RagTown x = Town.withSorts(2);
        x.twice(0, 0, 1, 0);
        x.twice(0, 0, 2, 1);
        x.twice(3, 1, 1, 0);
        x.twice(1, 1, 0, 0);
        Check.is("0 and 1", x.met(0, 1), 500);
        Check.is("1 and 0", x.met(1, 0), 500);
        Check.is("0 and 2", x.met(0, 2), 0);
        Check.is("2 and 0", x.met(2, 0), 0);
        Check.is("1 and 3", x.met(1, 3), 0);
        Check.is("2 and 3", x.met(2, 3), -1);
        Check.is("EYE of 0", x.eye(0), 333);
        Check.is("EYE of 1", x.eye(1), 333);
        Check.is("EYE of 2", x.eye(2), 0);
    }

    private static void numbersOfCalled() {
        Check.Maker town = () -> {
            RagTown x = Town.busy();
            for (int sort = 0; sort < 5; sort++) {
                x.twice(2, sort, 3, sort);
            }
            for (int sorter = 0; sorter < 6; sorter++) {
                x.twice(sorter, 1, (sorter + 1) % 6, 1);
            }
            return x;
        };
        Check.ends("SORTER", town, (x, v) -> x.called(v, 1), 0, 5, -1);
        Check.ends("SORT", town, (x, v) -> x.called(2, v), 0, 4, -1);
        Check.refused("it never did", Town::busy, x -> x.called(0, 3), -1);
        Check.refused("others did", Town::busy, x -> x.called(0, 2), -1);
    }

    /** "SORT that a SORTER's others called most often, where it called one x" */
    private static void mostOften() {
        RagTown x = Town.withSorts(16);
        x.twice(2, 5, 0, 15);
        Check.is("once", x.called(2, 5), 15);
        Check.is("of the other", x.called(0, 15), 5);
        x.twice(1, 3, 2, 5);
        x.twice(2, 5, 4, 15);
        Check.is("twice", x.called(2, 5), 15);
        x.twice(3, 3, 2, 5);
        x.twice(2, 5, 3, 3);
        Check.is("three of two others", x.called(2, 5), 3);
        x.twice(2, 6, 3, 15);
        x.twice(2, 6, 3, 15);
        x.twice(0, 5, 3, 15);
        Check.is("where it called another", x.called(2, 5), 3);
        Check.is("that other", x.called(2, 6), 15);
        Check.is("one that another called", x.called(2, 15), -1);
        Check.is("called alike", x.twice(4, 9, 5, 9), 9);
        Check.is("itself", x.called(4, 9), 9);
    }

    /** "(of equal ones the least)" */
    private static void leastOfEqualOnes() {
        for (int least = 0; least < 15; least++) {
            RagTown x = Town.withSorts(16);
            x.twice(0, 7, 1, 15);
            x.twice(0, 7, 2, least);
            Check.is("one each", x.called(0, 7), least);
            x.twice(0, 7, 3, 15);
            Check.is("one more of the last", x.called(0, 7), 15);
            x.twice(4, least, 0, 7);
            Check.is("two each", x.called(0, 7), least);
        }
    }

    private static void numbersOfRing() {
        Check.ends("SORTER", Town::busy, RagTown::ring, 0, 5, -1);
    }

    /** "How many SORTERS hang together with one by those who MET, itself too; the ROW: they, ascending." */
    private static void hangTogether() {
        RagTown x = Town.withSorts(1);
        for (int s = 0; s < 6; s++) {
            ringIs("alone", x, s, s);
        }
        int[][] ways = {{0, 1, 2, 3, 4, 5}, {5, 4, 3, 2, 1, 0}, {3, 0, 5, 1, 4, 2}, {2, 4, 0, 3, 1, 5}};
        for (int[] way : ways) {
            for (int order = 0; order < 2; order++) {
                RagTown y = Town.withSorts(1);
                for (int i = 0; i < 5; i++) {
                    int at = order == 0 ? i : 4 - i;
                    y.twice(way[at], 0, way[at + 1], 0);
                }
                for (int s = 0; s < 6; s++) {
                    ringIs("a way through all", y, s, 0, 1, 2, 3, 4, 5);
                }
            }
        }
        x.twice(5, 0, 0, 0);
        x.twice(3, 0, 2, 0);
        ringIs("0 and 5", x, 0, 0, 5);
        ringIs("5 and 0", x, 5, 0, 5);
        ringIs("2 and 3", x, 2, 2, 3);
        ringIs("1 alone", x, 1, 1);
        x.twice(3, 0, 5, 0);
        ringIs("four of them", x, 2, 0, 2, 3, 5);
        ringIs("4 alone", x, 4, 4);
    }

    private static void ringIs(String what, RagTown x, int sorter, int... want) {
        Check.is(what, x.ring(sorter), want.length);
        Check.row(what, x, want);
    }
}
