import java.util.ArrayList;
import java.util.List;
import java.util.Random;

/** The searches (mix, suspects, share) and the reading of texts beside plain ones that try all there is. */
final class SearchTest {
    private static final Random DICE = new Random(20261118);

    public static void main(String[] args) {
        for (int i = 0; i < 40000; i++) {
            oneText();
        }
        for (int i = 0; i < 250; i++) {
            mixes();
        }
        for (int i = 0; i < 400; i++) {
            suspects();
        }
        for (int i = 0; i < 120; i++) {
            shares();
        }
        Check.finish();
    }

    private static int upTo(int most) {
        return DICE.nextInt(most + 1);
    }

    private static String randomSigns() {
        String pool = "|&<>=+-*/%!()0123456789lpzen;;x";
        StringBuilder text = new StringBuilder();
        int length = upTo(12);
        for (int i = 0; i < length; i++) {
            text.append(pool.charAt(upTo(pool.length() - 1)));
        }
        return text.toString();
    }

    /** An EXPRESSION that is one, by depth. */
    private static String expression(int depth, String letters) {
        int kind = upTo(depth <= 0 ? 1 : 6);
        switch (kind) {
            case 0:
                return String.valueOf(DICE.nextBoolean() ? upTo(9) : upTo(9999));
            case 1:
                return String.valueOf(letters.charAt(upTo(letters.length() - 1)));
            case 2:
                return "(" + expression(depth - 1, letters) + ")";
            case 3:
                return (DICE.nextBoolean() ? "!" : "-") + "(" + expression(depth - 1, letters) + ")";
            case 4:
                String signs = "<>=";
                return "(" + expression(depth - 1, letters) + ")" + signs.charAt(upTo(2)) + "("
                    + expression(depth - 1, letters) + ")";
            default:
                String joins = "|&+-*/%";
                return expression(depth - 1, letters) + joins.charAt(upTo(6)) + expression(depth - 1, letters);
        }
    }

    private static void oneText() {
        boolean recipe = DICE.nextInt(3) == 0;
        String text = DICE.nextBoolean() ? randomSigns() : expression(4, "pznelq");
        if (DICE.nextInt(5) == 0 && !text.isEmpty()) {
            text = text.substring(0, upTo(text.length() - 1)) + randomSigns();
        }
        if (text.length() > 100) {
            text = text.substring(0, 100);
        }
        RagTown x = new RagTown();
        int wrong = Plain.wrongPlace(text, recipe);
        Check.is("text " + text, Check.text(x, recipe ? 1 : 2, 0, text), wrong == -1 ? 0 : -1 - wrong);
        if (wrong == -1 && !recipe) {
            Check.is("value of " + text, x.pay(0), Plain.value(text, c -> c == 'e' ? 1000 : 0));
        }
    }

    /** A town of SORTS with their numbers kept beside it. */
    private static final class Rags {
        final RagTown x = new RagTown();
        final int[][] sorts;
        final int[] prices;
        /** Pounds in the STORE. */
        final int[] pounds;

        Rags(int n) {
            sorts = new int[n][6];
            prices = new int[n];
            pounds = new int[n];
            for (int s = 0; s < n; s++) {
                int least = upTo(1000);
                int[] v = {upTo(255), upTo(255), upTo(255), 1 + upTo(98), least, least + upTo(1000 - least)};
                sorts[s] = v;
                x.sort(v[0], v[1], v[2], v[3], v[4], v[5], -1);
                prices[s] = upTo(DICE.nextBoolean() ? 3 : 999);
                x.price(s, 0, prices[s]);
            }
        }

        int letter(int sign, int[] parts) {
            int which = "rgbswv".indexOf(sign);
            int sum = 0;
            int kinds = 0;
            int greatest = 0;
            for (int s = 0; s < sorts.length; s++) {
                sum += which < 0 ? 0 : parts[s] * sorts[s][which];
                kinds += parts[s] > 0 ? 1 : 0;
                greatest = Math.max(greatest, parts[s]);
            }
            return which >= 0 ? sum / 12 : sign == 'n' ? kinds : sign == 'm' ? greatest : 0;
        }
    }

    private static void mixes() {
        int n = 1 + upTo(7);
        Rags rags = new Rags(n);
        RagTown x = rags.x;
        x.bale(0, 0, 9999, 0);
        x.open(0, 0, 2, n, upTo(100), upTo(150));
        for (int s = 0; s < n; s++) {
            rags.pounds[s] = x.store(s, 0);
        }
        String recipe = recipeOf(rags);
        Check.is("recipe " + recipe, Check.text(x, 1, 0, recipe), 0);
        int bits = 1 + upTo((1 << n) - 2);
        int p = DICE.nextBoolean() ? 0 : 12 * upTo(100);
        int got = x.mix(0, bits, p, 0);
        if (Integer.bitCount(bits) > 6) {
            Check.is("too many", got, -1);
            return;
        }
        int[] best = new int[n];
        int want = cheapest(rags, recipe, bits, p, new int[n], 0, 12, best, -2);
        Check.is("mix of " + recipe, got, want);
        int held = 0;
        for (int s = 0; s < n && want >= 0; s++) {
            int all = x.count(12);
            held = all - x.part(s, 0);
            x.part(s, held);
            Check.is("mix of " + recipe + ", PARTS of " + s, held, best[s]);
        }
        if (want >= 0) {
            Check.is("judge", x.judge(0), -2);
            Check.is("cost", x.cost(0), want);
            Check.yes("make", p == 0 || x.make(p) == 0);
        }
    }

    private static String recipeOf(Rags rags) {
        if (DICE.nextInt(4) == 0) {
            String any = expression(3, "rgbswvnm") + ";" + expression(2, "nm");
            return any.length() <= 60 && Plain.wrongPlace(any, true) == -1 ? any : "1";
        }
        StringBuilder text = new StringBuilder();
        String letters = "rgbswvnm";
        int many = 1 + upTo(3);
        for (int i = 0; i < many; i++) {
            char letter = letters.charAt(upTo(7));
            int v = letter == 'n' ? upTo(5) : letter == 'm' ? upTo(12) : rags.sorts[upTo(rags.sorts.length - 1)][
                letters.indexOf(letter)];
            text.append(i == 0 ? "" : ";").append(letter).append(DICE.nextBoolean() ? '<' : '>').append(v);
        }
        return text.toString();
    }

    private static int cheapest(Rags rags, String recipe, int bits, int p, int[] row, int s, int left, int[] best,
            int least) {
        if (s == row.length) {
            int pence = 0;
            for (int i = 0; i < row.length; i++) {
                pence += row[i] * rags.prices[i];
            }
            boolean better = left == 0 && (least < 0 || pence < least);
            if (better && Plain.firstBroken(recipe, c -> rags.letter(c, row)) == -2) {
                System.arraycopy(row, 0, best, 0, row.length);
                return pence;
            }
            return least;
        }
        int found = least;
        int most = (bits >> s & 1) == 1 ? left : 0;
        for (int some = 0; some <= most; some++) {
            if ((long) some * p / 12 <= rags.pounds[s]) {
                row[s] = some;
                found = cheapest(rags, recipe, bits, p, row, s + 1, left - some, best, found);
            }
        }
        row[s] = 0;
        return found;
    }

    private static void suspects() {
        RagTown x = new RagTown();
        x.sort(1, 1, 1, 1, 0, 0, -1);
        x.sort(1, 1, 1, 1, 0, 0, -1);
        x.part(0, 6);
        x.part(1, 6);
        int small = 1 + upTo(10);
        for (int i = 0; i < 44; i++) {
            if (i < 24 && x.count(2) < 24) {
                int b = x.bale(0, 0, 99, 0);
                x.open(b, 0, 0, 2, upTo(small), upTo(5));
            }
            if (DICE.nextInt(3) == 0) {
                x.wipe(upTo(1), 1 + upTo(9), 0);
            }
            if (DICE.nextBoolean()) {
                x.make(12);
            }
        }
        List<Integer> bad = new ArrayList<>();
        int good = 0;
        int bads = 1 + upTo(4);
        for (int c = 0; c < x.count(6); c++) {
            int v = DICE.nextInt(6) < bads ? 1 : upTo(8) == 0 ? 0 : 2;
            x.fault(c, v);
            int mask = 0;
            int many = x.led(c);
            for (int i = 0; i < many; i++) {
                mask |= 1 << x.row(2 * i);
            }
            if (v == 1) {
                bad.add(mask);
            } else if (v == 0) {
                good |= mask;
            }
        }
        expectSuspects(x, bad, good);
    }

    private static void expectSuspects(RagTown x, List<Integer> bad, int good) {
        List<Integer> best = null;
        for (int many = 0; many <= 4 && best == null; many++) {
            best = firstRow(bad, good, many, 0, new ArrayList<>());
        }
        int got = x.suspects();
        Check.is("suspects", got, best == null ? -2 : best.size());
        for (int i = 0; best != null && i < best.size(); i++) {
            Check.is("suspect " + i, x.row(i), best.get(i));
        }
    }

    private static List<Integer> firstRow(List<Integer> bad, int good, int many, int from, List<Integer> row) {
        if (row.size() == many) {
            int chosen = 0;
            for (int b : row) {
                chosen |= 1 << b;
            }
            for (int mask : bad) {
                if ((mask & chosen) == 0) {
                    return null;
                }
            }
            return row;
        }
        for (int b = from; b < 24; b++) {
            if ((good >> b & 1) == 0) {
                List<Integer> longer = new ArrayList<>(row);
                longer.add(b);
                List<Integer> found = firstRow(bad, good, many, b + 1, longer);
                if (found != null) {
                    return found;
                }
            }
        }
        return null;
    }

    private static void shares() {
        RagTown x = new RagTown();
        for (int s = 0; s < 3; s++) {
            x.sort(1, 1, 1, 1, 0, 0, -1);
        }
        x.bale(0, 0, 9999, 0);
        x.open(0, 0, 2, 3, 3000, 0);
        int few = DICE.nextBoolean() ? 2 : 200;
        int packs = upTo(7);
        for (int i = 0; i < packs; i++) {
            int s = upTo(2);
            x.pack(s, 1 + upTo(few), (s + 1) % 3, upTo(few));
        }
        int[] takes = new int[4];
        for (int land = 0; land < 4; land++) {
            takes[land] = upTo(DICE.nextBoolean() ? 2 : 8);
            x.takes(land, takes[land]);
            for (int s = 0; s < 3; s++) {
                x.wish(land, s, upTo(few) - 1);
            }
        }
        int n = x.count(8);
        int[][] gifts = new int[4][n];
        for (int land = 0; land < 4; land++) {
            for (int i = 0; i < n; i++) {
                gifts[land][i] = x.gives(land, i);
            }
        }
        long best = -1;
        int first = 0;
        int all = (int) Math.round(Math.pow(5, n));
        for (int code = 0; code < all; code++) {
            long sum = sumOf(gifts, takes, n, code);
            if (sum > best) {
                best = sum;
                first = code;
            }
        }
        Check.is("share", x.share(), best);
        Check.is("numbers of the ROW", x.count(9), n);
        for (int i = n - 1, code = first; i >= 0; i--, code /= 5) {
            Check.is("share of " + i, x.row(i), code % 5 == 4 ? -1 : code % 5);
        }
    }

    /** What a row of LANDS (digits of 5, the first PACK's ahead, 4 for none) gives, or -1 if it can't be. */
    private static long sumOf(int[][] gifts, int[] takes, int packs, int code) {
        int[] had = new int[5];
        long sum = 0;
        for (int i = packs - 1, rest = code; i >= 0; i--, rest /= 5) {
            int land = rest % 5;
            had[land]++;
            if (land < 4) {
                if (gifts[land][i] < 0 || had[land] > takes[land]) {
                    return -1;
                }
                sum += gifts[land][i];
            }
        }
        return sum;
    }
}
