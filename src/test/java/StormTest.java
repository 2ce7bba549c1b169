import java.util.List;
import java.util.NoSuchElementException;
import java.util.Random;

/**
 * Long runs of calls of any kind, with numbers in and out of their bounds: nothing is thrown but where the document
 * says it, a town that was spared the refused calls and the mere questions shows the same at the end, no pound is lost or
 * made, and the same calls always give the same answers.
 */
final class StormTest {
    private static final int[] WILD = {Integer.MIN_VALUE, Integer.MAX_VALUE, -2, -1, 16, 24, 100, 1001, 10000, 65536};
    /** Calls of a run: with those that look at its end they stay below 512. */
    private static final int CALLS = 170;
    private static final int TEXT = 12;
    private static final int END = 14;
    private static final int WISH = 35;
    /** at, within, of, off, due, pay, split, store, judge, cost, eye, met, called, gives, row, count: mere questions. */
    private static final List<Integer> ASKING = List.of(8, 9, 10, 15, 16, 17, 18, 19, 23, 24, 31, 32, 33, 38, 40, 41);

    public static void main(String[] args) {
        for (int seed = 0; seed < 900; seed++) {
            storm(seed);
        }
        Check.finish();
    }

    private static void storm(int seed) {
        RagTown x = new RagTown();
        RagTown spared = new RagTown();
        RagTown twin = new RagTown();
        Random dice = new Random(seed);
        int wild = dice.nextInt(3) == 0 ? 2 : dice.nextBoolean() ? 12 : 60;
        for (int i = 0; i < CALLS; i++) {
            int what = dice.nextInt(i < 60 ? 8 : 42);
            int[] v = new int[7];
            for (int j = 0; j < 7; j++) {
                v[j] = dice.nextInt(wild) == 0 ? WILD[dice.nextInt(WILD.length)] : dice.nextInt(8) == 0
                    ? dice.nextInt(1000) : dice.nextInt(dice.nextBoolean() ? 4 : 13);
            }
            int got = call(x, what, v);
            Check.is("seed " + seed + " call " + i + " of a twin", call(twin, what, v), got);
            if (!ASKING.contains(what) && (what == TEXT || !isRefusal(what, got))) {
                Check.is("seed " + seed + " call " + i + " of one that was spared some", call(spared, what, v), got);
            }
        }
        Check.same("seed " + seed + " at the end", Town.seen(x), Town.seen(spared));
        poundsAgree(twin, seed);
    }

    private static boolean isRefusal(int what, int got) {
        return got == Check.THROWN || got < 0 && what != WISH || got == 0 && what == END;
    }

    private static void poundsAgree(RagTown x, int seed) {
        int inLots = 0;
        for (int b = 0; b < x.count(2); b++) {
            int dust = x.of(b, 1);
            int parts = x.of(b, 3) + x.of(b, 4) + x.of(b, 5);
            inLots += x.of(b, 3);
            Check.is("seed " + seed + " pounds of " + b, parts, dust == -1 ? 0 : x.of(b, 0) - dust);
        }
        int inSorts = 0;
        for (int s = 0; s < x.count(0); s++) {
            inSorts += x.store(s, 0);
        }
        Check.is("seed " + seed + " pounds in the STORE", inSorts, inLots);
        for (int c = 0; c < x.count(6); c++) {
            int many = x.led(c);
            int sum = 0;
            for (int i = 0; i < many; i++) {
                sum += x.row(2 * i + 1);
            }
            Check.yes("seed " + seed + " pounds of CLOTH " + c, sum > 0 && sum % 12 == 0);
        }
    }

    private static int call(RagTown x, int what, int[] v) {
        try {
            return what < 21 ? early(x, what, v) : late(x, what, v);
        } catch (NoSuchElementException e) {
            boolean told = what == 18 || what == WISH || what == 40 || what == 41;
            Check.yes("call " + what + " throws", told && e.getClass() == NoSuchElementException.class);
            return Check.THROWN;
        }
    }

    private static int early(RagTown x, int what, int[] v) {
        switch (what) {
            case 0: return x.sort(v[0], v[1], v[2], v[3], v[4], v[4] + v[5], v[6] - 1);
            case 1: return x.price(v[0], v[1], v[2]);
            case 2: return x.bale(v[0], v[1], v[2] * 40, v[3]);
            case 3: return x.open(v[0], v[1], v[2], v[3], v[4], v[5]);
            case 4: return x.look(v[0], v[1], v[2], v[3], v[4]);
            case 5: return x.open(x.count(2) - 1, v[1], v[2], x.count(0), v[4], v[5]);
            case 6: return x.part(v[0], v[1]);
            case 7: return x.twice(v[0], v[1], v[2], v[3]);
            case 8: return x.at(v[0], v[1]);
            case 9: return x.within(v[0], v[1]);
            case 10: return x.of(v[0], v[1]);
            case 11: return x.as(v[0]);
            case TEXT:
                Check.tape(x, new String[] {"l+d", "q*9", "n>1;s>9", "1", "m<8", "p*e/1000", "(((", "z-z/q"}[v[0] & 7]);
                return x.text(v[1] & 3, v[2]);
            case 13: return x.sign(v[0]);
            case END: return x.end(v[0]) ? 1 : 0;
            case 15: return x.off(v[0], v[1]);
            case 16: return x.due(v[0]);
            case 17: return x.pay(v[0]);
            case 18: return x.split(v[0], v[1]);
            case 19: return x.store(v[0], v[1]);
            default: return x.fire(v[0]);
        }
    }

    private static int late(RagTown x, int what, int[] v) {
        switch (what) {
            case 21: return x.moth(v[0] * 3);
            case 22: return x.wipe(v[0], v[1], v[2]);
            case 23: return x.judge(v[0]);
            case 24: return x.cost(v[0]);
            case 25: return x.mix(v[0], v[1], v[2] * 12, v[3]);
            case 26: return x.make(v[0] * 12);
            case 27: return x.led(v[0]);
            case 28: return x.fault(v[0], v[1]);
            case 29: return x.suspects();
            case 30: return x.foretell(v[0], v[1] - 1, v[2]);
            case 31: return x.eye(v[0]);
            case 32: return x.met(v[0], v[1]);
            case 33: return x.called(v[0], v[1]);
            case 34: return x.ring(v[0]);
            case WISH: return x.wish(v[0], v[1], v[2] - 1);
            case 36: return x.takes(v[0], v[1]);
            case 37: return x.pack(v[0], v[1], v[2], v[3]);
            case 38: return x.gives(v[0], v[1]);
            case 39: return x.share();
            case 40: return x.row(v[0]);
            default: return x.row(v[0] - 1) + x.count(v[1]);
        }
    }
}
