import java.util.NoSuchElementException;

/** What the tests ask with: each wrong answer is printed, and finish() ends with exit code 1 if there was one. */
final class Check {
    private static int wrong = 0;
    private static int asked = 0;

    interface Call {
        int go();
    }

    private Check() {
    }

    static void is(String what, long got, long want) {
        asked++;
        if (got != want) {
            wrong++;
            System.out.println(what + ": answered " + got + ", due is " + want);
        }
    }

    static void yes(String what, boolean got) {
        is(what, got ? 1 : 0, 1);
    }

    static void no(String what, boolean got) {
        is(what, got ? 1 : 0, 0);
    }

    static void noSuchElement(String what, Call call) {
        asked++;
        try {
            int got = call.go();
            wrong++;
            System.out.println(what + ": answered " + got + ", due is NoSuchElementException");
        } catch (NoSuchElementException e) {
            if (e.getClass() != NoSuchElementException.class) {
                wrong++;
                System.out.println(what + ": another class of exception");
            }
        }
    }

    /** The ROW has these numbers and no more. */
    static void row(String what, RagTown x, int... want) {
        is(what + " numbers of the ROW", x.count(9), want.length);
        for (int i = 0; i < want.length && i < x.count(9); i++) {
            is(what + " row(" + i + ")", x.row(i), want[i]);
        }
        noSuchElement(what + " row behind its end", () -> x.row(want.length));
        noSuchElement(what + " row(-1)", () -> x.row(-1));
    }

    /** THE TAPE becomes these signs. */
    static void tape(RagTown x, String signs) {
        x.end(0);
        for (int i = 0; i < signs.length(); i += 4) {
            int v = 0;
            for (int j = i; j < i + 4; j++) {
                v = v << 8 | (j < signs.length() ? signs.charAt(j) & 255 : 0);
            }
            x.sign(v);
        }
        x.end(signs.length());
    }

    static int text(RagTown x, int what, int k, String signs) {
        tape(x, signs);
        return x.text(what, k);
    }

    static void finish() {
        System.out.println(asked + " asked, " + wrong + " wrong");
        if (wrong != 0) {
            System.exit(1);
        }
    }
}
