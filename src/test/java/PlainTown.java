import java.math.BigInteger;
import java.util.ArrayList;
import java.util.List;
import java.util.Map;
import java.util.NoSuchElementException;
import java.util.TreeMap;
import java.util.TreeSet;
import java.util.function.IntUnaryOperator;

/**
 * A second town, written after the document, sentence by sentence and as plainly as can be: lists that grow,
 * numbers without an end, every choice tried. TwinTest sets it beside the program.
 */
public final class PlainTown {
    private static final int NONE = -1;

    private record Sort(int red, int green, int blue, int staple, int least, int most, int parent) {
    }

    private record Price(int sort, int week, int pence) {
    }

    private record Look(int bale, int side, int day, int weight, int damp) {
    }

    private record Twice(int a, int x, int b, int y) {
        boolean has(int sorter) {
            return a == sorter || b == sorter;
        }
    }

    private static final class Bale {
        int seller;
        int mark;
        int told;
        int rate;
        int sorter = NONE;
        int lost = 0;
        /** Pounds of SORTS 0, 1, ..; null: it is not SORTED. */
        List<Integer> had = null;

        int dust() {
            return had == null ? NONE : told - had.stream().mapToInt(p -> p).sum();
        }

        int hadOf(int sort) {
            return had != null && sort < had.size() ? had.get(sort) : 0;
        }
    }

    private static final class Lot {
        int sort;
        int bale;
        int pounds;
    }

    private static final class Cloth {
        final TreeMap<Integer, Integer> came = new TreeMap<>();
        int verdict = 2;
    }

    private final List<Sort> sorts = new ArrayList<>();
    private final List<Price> prices = new ArrayList<>();
    private final List<Bale> bales = new ArrayList<>();
    private final List<Look> looks = new ArrayList<>();
    private final List<String> recipes = new ArrayList<>();
    private final List<Lot> lots = new ArrayList<>();
    private final List<Cloth> cloths = new ArrayList<>();
    private final List<Twice> doubles = new ArrayList<>();
    private final List<Map<Integer, Integer>> packs = new ArrayList<>();
    private final String[] contracts = {"0", "0", "0", "0"};
    private final TreeMap<Integer, Integer> blend = new TreeMap<>();
    private final List<TreeMap<Integer, Integer>> wishes = new ArrayList<>();
    private final int[] takes = new int[4];
    private String pay = "0";
    private String tape = "";
    private int as = 99;
    private List<Integer> row = new ArrayList<>();

    public PlainTown() {
        for (int land = 0; land < 4; land++) {
            wishes.add(new TreeMap<>());
        }
    }

    private static boolean not(int v, int least, int most) {
        return v < least || most < v;
    }

    private boolean noSort(int v) {
        return not(v, 0, sorts.size() - 1);
    }

    private boolean noBale(int v) {
        return not(v, 0, bales.size() - 1);
    }

    /** a times b by c, cut. */
    private static int by(long a, long b, long c) {
        return BigInteger.valueOf(a).multiply(BigInteger.valueOf(b)).divide(BigInteger.valueOf(c)).intValueExact();
    }

    // 2 to 5

    public int sort(int red, int green, int blue, int staple, int least, int most, int parent) {
        if (not(red, 0, 255) || not(green, 0, 255) || not(blue, 0, 255) || not(staple, 1, 99)
            || not(least, 0, 1000) || not(most, 0, 1000) || least > most) {
            return NONE;
        }
        if (parent != NONE && noSort(parent) || sorts.size() == 16) {
            return NONE;
        }
        sorts.add(new Sort(red, green, blue, staple, least, most, parent));
        return sorts.size() - 1;
    }

    public int price(int sort, int week, int pence) {
        if (noSort(sort) || not(week, 0, 99) || not(pence, 0, 999) || prices.size() == 60) {
            return NONE;
        }
        prices.add(new Price(sort, week, pence));
        return prices.size();
    }

    public int at(int sort, int week) {
        if (noSort(sort) || not(week, 0, 99)) {
            return NONE;
        }
        for (int w = week; w >= 0; w--) {
            for (int i = prices.size() - 1; i >= 0; i--) {
                if (prices.get(i).sort() == sort && prices.get(i).week() == w) {
                    return prices.get(i).pence();
                }
            }
        }
        return 0;
    }

    public int within(int sort, int of) {
        if (noSort(sort) || noSort(of)) {
            return NONE;
        }
        if (sort == of) {
            return 1;
        }
        int parent = sorts.get(sort).parent();
        return parent == NONE ? 0 : within(parent, of);
    }

    // 6 to 12

    public int bale(int seller, int mark, int weight, int rate) {
        if (not(seller, 0, 3) || not(mark, 0, 7) || not(weight, 1, 9999) || not(rate, 0, 999) || bales.size() == 24) {
            return NONE;
        }
        Bale b = new Bale();
        b.seller = seller;
        b.mark = mark;
        b.told = weight;
        b.rate = rate;
        bales.add(b);
        return bales.size() - 1;
    }

    public int open(int bale, int sorter, int kind, int n, int f, int step) {
        if (noBale(bale) || not(sorter, 0, 5) || not(kind, 0, 3) || bales.get(bale).had != null || n > sorts.size()) {
            return NONE;
        }
        if (kind == 3) {
            return -3;
        }
        if (n < 0) {
            return -2;
        }
        List<Integer> sheet = new ArrayList<>();
        BigInteger sum = BigInteger.ZERO;
        int entry = f;
        for (int i = 0; i < n; i++) {
            int p = kind == 0 ? (byte) entry : kind == 1 ? (short) entry : entry;
            if (p < 0) {
                return -4;
            }
            sheet.add(p);
            sum = sum.add(BigInteger.valueOf(p));
            entry += step;
        }
        Bale b = bales.get(bale);
        if (sum.compareTo(BigInteger.valueOf(b.told)) > 0) {
            return -4;
        }
        b.sorter = sorter;
        b.had = sheet;
        for (int s = 0; s < n; s++) {
            if (sheet.get(s) > 0) {
                Lot lot = new Lot();
                lot.sort = s;
                lot.bale = bale;
                lot.pounds = sheet.get(s);
                lots.add(lot);
            }
        }
        return b.dust();
    }

    public int of(int bale, int what) {
        if (noBale(bale) || not(what, 0, 5)) {
            return NONE;
        }
        Bale b = bales.get(bale);
        return switch (what) {
            case 0 -> b.told;
            case 1 -> b.dust();
            case 2 -> b.sorter;
            case 3 -> lots.stream().filter(l -> l.bale == bale).mapToInt(l -> l.pounds).sum();
            case 4 -> cloths.stream().mapToInt(c -> c.came.getOrDefault(bale, 0)).sum();
            default -> b.lost;
        };
    }

    public int look(int bale, int side, int day, int weight, int damp) {
        if (noBale(bale) || not(side, 0, 1) || not(day, 0, 99) || not(weight, 0, 9999) || not(damp, 0, 1000)
            || looks.size() == 60) {
            return NONE;
        }
        looks.add(new Look(bale, side, day, weight, damp));
        return looks.size();
    }

    public int as(int day) {
        if (not(day, 0, 99)) {
            return NONE;
        }
        int was = as;
        as = day;
        return was;
    }

    public int off(int bale, int side) {
        if (noBale(bale) || not(side, 0, 1)) {
            return NONE;
        }
        for (int day = as; day >= 0; day--) {
            for (int i = looks.size() - 1; i >= 0; i--) {
                Look look = looks.get(i);
                if (look.bale() == bale && look.side() == side && look.day() == day) {
                    return offBy(bales.get(bale), look);
                }
            }
        }
        return NONE;
    }

    private int offBy(Bale b, Look look) {
        int dry = by(look.weight(), 1000 - look.damp(), 1000);
        int woolless = 0;
        for (int s = 0; s < sorts.size(); s++) {
            woolless += sorts.get(s).most() == 0 ? b.hadOf(s) : 0;
        }
        Map<Character, Integer> letters = Map.of(
            'l', b.told < dry ? 0 : by(b.told - dry, 1000, b.told),
            'd', look.damp(),
            'k', b.had == null ? 0 : by(b.dust(), 1000, b.told),
            'o', b.had == null ? 0 : by(woolless, 1000, b.told),
            'q', b.mark);
        int off = Plain.value(contracts[b.seller], c -> letters.getOrDefault((char) c, 0));
        return off < 0 ? 0 : off > 1000 ? 1000 : off;
    }

    public int due(int bale) {
        if (noBale(bale)) {
            return NONE;
        }
        int us = off(bale, 0);
        int seller = off(bale, 1);
        int off = us == NONE && seller == NONE ? 0 : us == NONE ? seller : seller == NONE ? us : (us + seller) / 2;
        Bale b = bales.get(bale);
        return by((long) b.told * b.rate, 1000 - off, 1000);
    }

    // 13 to 16

    public int sign(int v) {
        if (tape.length() + 4 > 100) {
            return NONE;
        }
        tape += signs(v);
        return tape.length();
    }

    /** Its four bytes, the highest first. */
    private static String signs(int v) {
        String bits = String.format("%32s", Integer.toBinaryString(v)).replace(' ', '0');
        String signs = "";
        for (int i = 0; i < 4; i++) {
            signs += (char) Integer.parseInt(bits.substring(8 * i, 8 * i + 8), 2);
        }
        return signs;
    }

    public boolean end(int n) {
        if (n < 0 || n > tape.length()) {
            return false;
        }
        tape = tape.substring(0, n);
        return true;
    }

    public int text(int what, int k) {
        String signs = tape;
        tape = "";
        if (not(what, 0, 2) || what == 0 && not(k, 0, 3) || what == 1 && recipes.size() == 6) {
            return -100;
        }
        int wrong = Plain.wrongPlace(signs, what == 1);
        if (wrong >= 0) {
            return -1 - wrong;
        }
        if (what == 0) {
            contracts[k] = signs;
        } else if (what == 2) {
            pay = signs;
        } else {
            recipes.add(signs);
            return recipes.size() - 1;
        }
        return 0;
    }

    public int pay(int sorter) {
        if (not(sorter, 0, 5)) {
            return NONE;
        }
        List<Bale> his = bales.stream().filter(b -> b.sorter == sorter).toList();
        int dust = his.stream().mapToInt(Bale::dust).sum();
        int told = his.stream().mapToInt(b -> b.told).sum();
        int eye = eye(sorter);
        Map<Character, Integer> letters = Map.of('p', told - dust, 'z', dust, 'n', his.size(), 'e', eye < 0 ? 1000 : eye);
        return Plain.value(pay, c -> letters.getOrDefault((char) c, 0));
    }

    // 17 to 21

    private int inStore(int sort) {
        return lots.stream().filter(l -> l.sort == sort).mapToInt(l -> l.pounds).sum();
    }

    /** Pounds TAKEN of a SORT, by BALES. */
    private TreeMap<Integer, Integer> taken(int sort, int p) {
        TreeMap<Integer, Integer> came = new TreeMap<>();
        int left = p;
        for (Lot lot : lots) {
            int some = lot.sort == sort ? Math.min(left, lot.pounds) : 0;
            if (some > 0) {
                lot.pounds -= some;
                left -= some;
                came.merge(lot.bale, some, Integer::sum);
            }
        }
        return came;
    }

    private void lose(Map<Integer, Integer> came) {
        came.forEach((bale, p) -> bales.get(bale).lost += p);
    }

    public int store(int sort, int what) {
        if (noSort(sort) || not(what, 0, 1)) {
            return NONE;
        }
        int sum = 0;
        for (int s = 0; s < sorts.size(); s++) {
            sum += what == 0 && s == sort || what == 1 && within(s, sort) == 1 ? inStore(s) : 0;
        }
        return sum;
    }

    public int fire(int v) {
        if (not(v, 0, 1000)) {
            return NONE;
        }
        int sum = 0;
        for (Lot lot : lots) {
            int left = by(lot.pounds, 1000 - v, 1000);
            bales.get(lot.bale).lost += lot.pounds - left;
            sum += lot.pounds - left;
            lot.pounds = left;
        }
        return sum;
    }

    public int moth(int bale) {
        if (noBale(bale)) {
            return NONE;
        }
        int sum = of(bale, 3);
        lots.removeIf(l -> l.bale == bale);
        bales.get(bale).lost += sum;
        return sum;
    }

    public int wipe(int sort, int p, int y) {
        if (noSort(sort) || not(p, 1, 9999) || not(y, 0, 1000) || inStore(sort) < p) {
            return NONE;
        }
        lose(taken(sort, p));
        return by(p, y, 1000);
    }

    public int split(int sort, int week) {
        if (noSort(sort) || not(week, 0, 99)) {
            throw new NoSuchElementException();
        }
        TreeMap<Integer, Integer> had = new TreeMap<>();
        for (int s = 0; s < sorts.size(); s++) {
            if (sorts.get(s).parent() == sort) {
                int part = s;
                had.put(s, bales.stream().mapToInt(b -> b.hadOf(part)).sum());
            }
        }
        int together = had.values().stream().mapToInt(p -> p).sum();
        if (together == 0) {
            throw new NoSuchElementException();
        }
        int pounds = inStore(sort);
        BigInteger more = BigInteger.ZERO;
        for (int s : had.keySet()) {
            BigInteger share = BigInteger.valueOf(by(pounds, had.get(s), together));
            more = more.add(share.multiply(BigInteger.valueOf(at(s, week))));
        }
        return more.subtract(BigInteger.valueOf(pounds).multiply(BigInteger.valueOf(at(sort, week)))).intValueExact();
    }

    // 22 to 30

    private int partsInAll() {
        return blend.values().stream().mapToInt(v -> v).sum();
    }

    public int part(int sort, int v) {
        if (noSort(sort) || not(v, 0, 12)) {
            return NONE;
        }
        blend.put(sort, v);
        return partsInAll();
    }

    private int letterOf(Map<Integer, Integer> parts, int letter) {
        int sum = 0;
        int has = 0;
        int greatest = 0;
        for (int s : parts.keySet()) {
            Sort sort = sorts.get(s);
            int v = parts.get(s);
            has += v > 0 ? 1 : 0;
            greatest = Math.max(greatest, v);
            sum += v * switch (letter) {
                case 'r' -> sort.red();
                case 'g' -> sort.green();
                case 'b' -> sort.blue();
                case 's' -> sort.staple();
                case 'w' -> sort.least();
                case 'v' -> sort.most();
                default -> 0;
            };
        }
        return letter == 'n' ? has : letter == 'm' ? greatest : sum / 12;
    }

    private int judged(Map<Integer, Integer> parts, String recipe) {
        TreeMap<Integer, Integer> known = new TreeMap<>();
        IntUnaryOperator letter = c -> known.computeIfAbsent(c, sign -> letterOf(parts, sign));
        return Plain.firstBroken(recipe, letter);
    }

    public int judge(int recipe) {
        boolean fits = !not(recipe, 0, recipes.size() - 1) && partsInAll() == 12;
        return fits ? judged(blend, recipes.get(recipe)) : NONE;
    }

    private TreeMap<Integer, Integer> pricesIn(int week) {
        TreeMap<Integer, Integer> pence = new TreeMap<>();
        for (int s = 0; s < sorts.size(); s++) {
            pence.put(s, at(s, week));
        }
        return pence;
    }

    private static int costOf(Map<Integer, Integer> parts, Map<Integer, Integer> pence) {
        return parts.keySet().stream().mapToInt(s -> parts.get(s) * pence.get(s)).sum();
    }

    public int cost(int week) {
        return not(week, 0, 99) || partsInAll() != 12 ? NONE : costOf(blend, pricesIn(week));
    }

    public int mix(int recipe, int bits, int p, int week) {
        List<Integer> of = new ArrayList<>();
        for (int s = 0; s < 32; s++) {
            if ((bits & 1 << s) != 0) {
                of.add(s);
            }
        }
        if (not(of.size(), 1, 6) || of.stream().anyMatch(this::noSort) || not(recipe, 0, recipes.size() - 1)) {
            return NONE;
        }
        if (not(p, 0, 9996) || p % 12 != 0 || not(week, 0, 99)) {
            return NONE;
        }
        List<TreeMap<Integer, Integer>> rows = new ArrayList<>();
        addRows(of, new TreeMap<>(), 12, rows);
        TreeMap<Integer, Integer> pence = pricesIn(week);
        TreeMap<Integer, Integer> best = null;
        for (TreeMap<Integer, Integer> each : rows) {
            boolean cheaper = best == null || costOf(each, pence) < costOf(best, pence);
            if (cheaper && enough(each, p) && judged(each, recipes.get(recipe)) == -2) {
                best = each;
            }
        }
        if (best == null) {
            return -2;
        }
        blend.clear();
        blend.putAll(best);
        return costOf(best, pence);
    }

    /** All rows of so many PARTS, those with less of the first SORT ahead. */
    private static void addRows(List<Integer> of, TreeMap<Integer, Integer> begun, int left,
            List<TreeMap<Integer, Integer>> rows) {
        int s = of.get(begun.size());
        boolean last = begun.size() == of.size() - 1;
        for (int v = last ? left : 0; v <= left; v++) {
            begun.put(s, v);
            if (last) {
                rows.add(new TreeMap<>(begun));
            } else {
                addRows(of, begun, left - v, rows);
            }
            begun.remove(s);
        }
    }

    private boolean enough(Map<Integer, Integer> parts, int p) {
        return parts.keySet().stream().allMatch(s -> inStore(s) >= by(parts.get(s), p, 12));
    }

    public int make(int p) {
        if (partsInAll() != 12 || not(p, 12, 9996) || p % 12 != 0 || !enough(blend, p) || cloths.size() == 20) {
            return NONE;
        }
        Cloth cloth = new Cloth();
        for (int s : blend.keySet()) {
            taken(s, by(blend.get(s), p, 12)).forEach((bale, some) -> cloth.came.merge(bale, some, Integer::sum));
        }
        cloths.add(cloth);
        return cloths.size() - 1;
    }

    public int led(int cloth) {
        if (not(cloth, 0, cloths.size() - 1)) {
            return NONE;
        }
        row = new ArrayList<>();
        cloths.get(cloth).came.forEach((bale, p) -> row.addAll(List.of(bale, p)));
        return cloths.get(cloth).came.size();
    }

    public int fault(int cloth, int v) {
        if (not(cloth, 0, cloths.size() - 1) || not(v, 0, 2)) {
            return NONE;
        }
        int was = cloths.get(cloth).verdict;
        cloths.get(cloth).verdict = v;
        return was;
    }

    public int suspects() {
        TreeSet<Integer> free = new TreeSet<>();
        for (int b = 0; b < bales.size(); b++) {
            free.add(b);
        }
        List<TreeSet<Integer>> bad = new ArrayList<>();
        for (Cloth cloth : cloths) {
            if (cloth.verdict == 0) {
                free.removeAll(cloth.came.keySet());
            } else if (cloth.verdict == 1) {
                bad.add(new TreeSet<>(cloth.came.keySet()));
            }
        }
        for (int many = 0; many <= 4; many++) {
            List<Integer> found = firstOf(new ArrayList<>(free), many, 0, bad);
            if (found != null) {
                row = found;
                return many;
            }
        }
        return -2;
    }

    /** The first row of so many, of those from a place on, that meets all sets; null without one. */
    private static List<Integer> firstOf(List<Integer> free, int many, int from, List<TreeSet<Integer>> sets) {
        if (many == 0) {
            return sets.isEmpty() ? new ArrayList<>() : null;
        }
        for (int i = from; i < free.size(); i++) {
            int b = free.get(i);
            List<TreeSet<Integer>> rest = sets.stream().filter(set -> !set.contains(b)).toList();
            List<Integer> found = firstOf(free, many - 1, i + 1, rest);
            if (found != null) {
                found.add(0, b);
                return found;
            }
        }
        return null;
    }

    public int foretell(int seller, int mark, int sort) {
        if (not(seller, 0, 3) || mark != NONE && not(mark, 0, 7) || noSort(sort)) {
            return NONE;
        }
        List<Integer> shares = new ArrayList<>();
        for (Bale b : bales) {
            if (b.had != null && b.seller == seller && (mark == NONE || b.mark == mark)) {
                int sum = 0;
                for (int s = 0; s < b.had.size(); s++) {
                    sum += within(s, sort) == 1 ? b.had.get(s) : 0;
                }
                shares.add(by(sum, 1000, b.told));
            }
        }
        if (shares.isEmpty()) {
            return NONE;
        }
        shares.sort(null);
        row = List.of(shares.get(0), shares.get(shares.size() - 1), shares.size());
        return shares.get(0);
    }

    // 31 to 35

    public int twice(int a, int x, int b, int y) {
        if (not(a, 0, 5) || not(b, 0, 5) || noSort(x) || noSort(y) || a == b || doubles.size() == 99) {
            return NONE;
        }
        doubles.add(new Twice(a, x, b, y));
        return doubles.size();
    }

    private static int alike(List<Twice> some) {
        long same = some.stream().filter(d -> d.x() == d.y()).count();
        return some.isEmpty() ? NONE : by(same, 1000, some.size());
    }

    public int eye(int sorter) {
        return alike(doubles.stream().filter(d -> d.has(sorter)).toList());
    }

    public int met(int a, int b) {
        return a == b ? NONE : alike(doubles.stream().filter(d -> d.has(a) && d.has(b)).toList());
    }

    public int called(int sorter, int x) {
        TreeMap<Integer, Integer> often = new TreeMap<>();
        for (Twice d : doubles) {
            if (d.a() == sorter && d.x() == x) {
                often.merge(d.y(), 1, Integer::sum);
            }
            if (d.b() == sorter && d.y() == x) {
                often.merge(d.x(), 1, Integer::sum);
            }
        }
        int most = often.values().stream().mapToInt(v -> v).max().orElse(0);
        return often.keySet().stream().filter(s -> often.get(s) == most).findFirst().orElse(NONE);
    }

    public int ring(int sorter) {
        if (not(sorter, 0, 5)) {
            return NONE;
        }
        TreeSet<Integer> ring = new TreeSet<>();
        reach(sorter, ring);
        row = new ArrayList<>(ring);
        return ring.size();
    }

    private void reach(int sorter, TreeSet<Integer> ring) {
        if (ring.add(sorter)) {
            for (int other = 0; other < 6; other++) {
                if (met(sorter, other) != NONE) {
                    reach(other, ring);
                }
            }
        }
    }

    // 36 to 42

    public int wish(int land, int sort, int pence) {
        if (not(land, 0, 3) || noSort(sort) || pence != NONE && not(pence, 0, 999)) {
            throw new NoSuchElementException();
        }
        Integer was = wishes.get(land).put(sort, pence);
        return was == null ? 0 : was;
    }

    public int takes(int land, int v) {
        if (not(land, 0, 3) || not(v, 0, 8)) {
            return NONE;
        }
        int was = takes[land];
        takes[land] = v;
        return was;
    }

    public int pack(int sort, int p, int other, int q) {
        if (noSort(sort) || not(p, 1, 9999) || not(q, 0, 9999) || inStore(sort) < p || packs.size() == 8) {
            return NONE;
        }
        Map<Integer, Integer> pack = new TreeMap<>();
        pack.put(sort, p);
        if (q > 0) {
            if (noSort(other) || other == sort || inStore(other) < q) {
                return NONE;
            }
            pack.put(other, q);
        }
        pack.forEach((s, some) -> lose(taken(s, some)));
        packs.add(pack);
        return packs.size() - 1;
    }

    public int gives(int land, int pack) {
        if (not(land, 0, 3) || not(pack, 0, packs.size() - 1)) {
            return NONE;
        }
        int sum = 0;
        for (Map.Entry<Integer, Integer> some : packs.get(pack).entrySet()) {
            int wish = wishes.get(land).getOrDefault(some.getKey(), 0);
            if (wish == NONE) {
                return -2;
            }
            sum += wish * some.getValue();
        }
        return sum;
    }

    public int share() {
        int[][] given = new int[4][packs.size()];
        for (int land = 0; land < 4; land++) {
            for (int i = 0; i < packs.size(); i++) {
                given[land][i] = gives(land, i);
            }
        }
        List<Integer> best = new ArrayList<>();
        int most = bestRow(given, takes.clone(), new ArrayList<>(), 0, -1, best);
        row = best;
        return most;
    }

    /** The most that can be given, from a row that has begun; best becomes the first row that gives it. */
    private static int bestRow(int[][] given, int[] left, List<Integer> begun, int sum, int most, List<Integer> best) {
        int i = begun.size();
        if (i == given[0].length) {
            if (sum > most) {
                best.clear();
                best.addAll(begun);
            }
            return Math.max(sum, most);
        }
        int found = most;
        for (int land : new int[] {0, 1, 2, 3, NONE}) {
            if (land != NONE && (left[land] == 0 || given[land][i] < 0)) {
                continue;
            }
            if (land != NONE) {
                left[land]--;
            }
            begun.add(land);
            found = bestRow(given, left, begun, sum + (land == NONE ? 0 : given[land][i]), found, best);
            begun.remove(i);
            if (land != NONE) {
                left[land]++;
            }
        }
        return found;
    }

    public int count(int what) {
        return switch (what) {
            case 0 -> sorts.size();
            case 1 -> prices.size();
            case 2 -> bales.size();
            case 3 -> looks.size();
            case 4 -> recipes.size();
            case 5 -> (int) lots.stream().filter(l -> l.pounds > 0).count();
            case 6 -> cloths.size();
            case 7 -> doubles.size();
            case 8 -> packs.size();
            case 9 -> row.size();
            case 10 -> tape.length();
            case 11 -> as;
            case 12 -> partsInAll();
            default -> NONE;
        };
    }

    public int row(int i) {
        if (not(i, 0, row.size() - 1)) {
            throw new NoSuchElementException();
        }
        return row.get(i);
    }
}
