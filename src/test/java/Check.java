import java.util.List;
import java.util.NoSuchElementException;

/** What the tests ask with: each wrong answer is printed, and finish() ends with exit code 1 if there was one. */
final class Check {
    private static int wrong = 0;
    private static int asked = 0;

    /** What a call answers that throws NoSuchElementException, as answer() tells it. */
    static final int THROWN = -77777;

    interface Call {
        int go();
    }

    /** A call on a town, and one that is given a number too. */
    interface Act {
        int on(RagTown x);
    }

    interface Given {
        int on(RagTown x, int v);
    }

    interface Maker {
        RagTown make();
    }

    private Check() {
    }

    static void is(String what, long got, long want) {
        asked++;
        if (got != want) {
            wrong++;
            System.out.println(what + ": answered " + got + ", due is " + want);
        }
    }

    static void yes(String what, boolean got) {
        is(what, got ? 1 : 0, 1);
    }

    static void no(String what, boolean got) {
        is(what, got ? 1 : 0, 0);
    }

    static void noSuchElement(String what, Call call) {
        asked++;
        try {
            int got = call.go();
            wrong++;
            System.out.println(what + ": answered " + got + ", due is NoSuchElementException");
        } catch (NoSuchElementException e) {
            if (e.getClass() != NoSuchElementException.class) {
                wrong++;
                System.out.println(what + ": another class of exception");
            }
        }
    }

    static int answer(RagTown x, Act act) {
        try {
            return act.on(x);
        } catch (NoSuchElementException e) {
            return e.getClass() == NoSuchElementException.class ? THROWN : THROWN - 1;
        }
    }

    /** A call answers that on such a town, and leaves all that can be seen of it as it was. */
    static void refused(String what, Maker town, Act act, int want) {
        RagTown x = town.make();
        is(what, answer(x, act), want);
        same(what + " changes nothing", Town.seen(x), Town.seen(town.make()));
    }

    static void taken(String what, Maker town, Act act, int refusal) {
        no(what + " is refused", answer(town.make(), act) == refusal);
    }

    /** A number may be least .. most: both ends are taken; the next below and above, and the farthest, refused. */
    static void ends(String what, Maker town, Given given, int least, int most, int refusal) {
        for (int v : new int[] {least, most}) {
            taken(what + " " + v, town, x -> given.on(x, v), refusal);
        }
        for (int v : new int[] {least - 1, most + 1, Integer.MIN_VALUE, Integer.MAX_VALUE}) {
            refused(what + " " + v, town, x -> given.on(x, v), refusal);
        }
    }

    /** At most so many: the last one is taken, one more is refused; count(which) tells how many there are. */
    static void most(String what, int which, int most, int last, Act more) {
        RagTown x = Town.filled(which, most - 1, more);
        is(what + ": one place is left", x.count(which), most - 1);
        is(what + ": the last one", more.on(x), last);
        is(what + ": full", x.count(which), most);
        refused(what + ": one more", () -> Town.filled(which, most, more), more, -1);
    }

    static void same(String what, List<String> got, List<String> want) {
        asked++;
        if (!got.equals(want)) {
            wrong++;
            int i = 0;
            while (i < got.size() && i < want.size() && got.get(i).equals(want.get(i))) {
                i++;
            }
            System.out.println(what + ": now " + (i < got.size() ? got.get(i) : "less") + ", before "
                + (i < want.size() ? want.get(i) : "less"));
        }
    }

    /** The ROW has these numbers and no more. */
    static void row(String what, RagTown x, int... want) {
        is(what + " numbers of the ROW", x.count(9), want.length);
        for (int i = 0; i < want.length && i < x.count(9); i++) {
            is(what + " row(" + i + ")", x.row(i), want[i]);
        }
        noSuchElement(what + " row behind its end", () -> x.row(want.length));
        noSuchElement(what + " row(-1)", () -> x.row(-1));
    }

    /** THE TAPE becomes these signs. */
    static void tape(RagTown x, String signs) {
        x.end(0);
        for (int i = 0; i < signs.length(); i += 4) {
            int v = 0;
            for (int j = i; j < i + 4; j++) {
                v = v << 8 | (j < signs.length() ? signs.charAt(j) & 255 : 0);
            }
            x.sign(v);
        }
        x.end(signs.length());
    }

    static int text(RagTown x, int what, int k, String signs) {
        tape(x, signs);
        return x.text(what, k);
    }

    static void finish() {
        System.out.println(asked + " asked, " + wrong + " wrong");
        if (wrong != 0) {
            System.exit(1);
        }
    }
}
