import java.util.Arrays;
import java.util.NoSuchElementException;

/** A town of rags; ../shared/DOC.md says, in numbered promises, what each call does. */
public final class RagTown {
    public static final int NONE = -1;

    private static final int SORTS_MOST = 16;
    private static final int PRICES_MOST = 60;
    private static final int BALES_MOST = 24;
    private static final int LOOKS_MOST = 60;
    private static final int RECIPES_MOST = 6;
    private static final int CLOTHS_MOST = 20;
    private static final int DOUBLES_MOST = 99;
    private static final int PACKS_MOST = 8;
    private static final int SELLERS = 4;
    private static final int SORTERS = 6;
    private static final int LANDS = 4;
    private static final int LAST_DAY = 99;
    private static final int TAPE_MOST = 100;
    private static final int TEXT_MOST = 60;
    /** Two numbers for each BALE are the most that a call tells in the ROW. */
    private static final int ROW_MOST = 2 * BALES_MOST;

    /** A BLEND's PARTS in all, and the pounds that a CLOTH's are a multiple of. */
    private static final int WHOLE = 12;
    private static final int CLOTH_POUNDS_MOST = 9996;
    private static final int MIXED_MOST = 6;
    /** The ways to deal 12 PARTS to 6 SORTS: 17 over 5. */
    private static final int BLENDS_MOST = 6188;

    /** Answers below NONE that tell why there is no other. */
    private static final int WHY_BELOW = -2;
    private static final int WHY_MISSING = -3;
    private static final int WHY_POUNDS = -4;
    private static final int NO_TEXT = -100;

    private final SortBook sorts = new SortBook();
    private final BaleBook bales = new BaleBook();
    private final LookBook looks = new LookBook();
    private final Tape tape = new Tape();
    private final Reader reader = new Reader();
    private final Texts texts = new Texts();
    private final Lots lots = new Lots();
    private final Blend blend = new Blend();
    private final ClothBook cloths = new ClothBook();
    private final Doubles doubles = new Doubles();
    private final LandBook lands = new LandBook();
    private final int[] told = new int[ROW_MOST];
    private int toldSize = 0;

    public RagTown() {
    }

    // ---- sorts, prices

    public int sort(int red, int green, int blue, int staple, int least, int most, int parent) {
        boolean colour = lies(red, 0, 255) && lies(green, 0, 255) && lies(blue, 0, 255);
        boolean wool = lies(least, 0, 1000) && lies(most, 0, 1000) && least <= most;
        boolean placed = parent == NONE || sorts.has(parent);
        if (!colour || !wool || !placed || !lies(staple, 1, 99) || sorts.size >= SORTS_MOST) {
            return NONE;
        }
        return sorts.add(red, green, blue, staple, least, most, parent);
    }

    public int price(int sort, int week, int pence) {
        boolean fits = sorts.has(sort) && isDay(week) && lies(pence, 0, 999);
        return fits && sorts.priced < PRICES_MOST ? sorts.addPrice(sort, week, pence) : NONE;
    }

    public int at(int sort, int week) {
        return sorts.has(sort) && isDay(week) ? sorts.priceIn(sort, week) : NONE;
    }

    public int within(int sort, int of) {
        if (!sorts.has(sort) || !sorts.has(of)) {
            return NONE;
        }
        return sorts.isPart(sort, of) ? 1 : 0;
    }

    // ---- bales

    public int bale(int seller, int mark, int weight, int rate) {
        boolean fits = isSeller(seller) && isMark(mark) && lies(weight, 1, 9999) && lies(rate, 0, 999);
        return fits && bales.size < BALES_MOST ? bales.add(seller, mark, weight, rate) : NONE;
    }

    public int open(int bale, int sorter, int kind, int n, int f, int step) {
        if (!bales.has(bale) || !isSorter(sorter) || !lies(kind, 0, 3)) {
            return NONE;
        }
        if (bales.isSorted(bale) || n > sorts.size) {
            return NONE;
        }
        if (kind == 3) {
            return WHY_MISSING;
        }
        if (n < 0) {
            return WHY_BELOW;
        }
        if (!sheetFits(bales.weight[bale], kind, n, f, step)) {
            return WHY_POUNDS;
        }
        bales.sorter[bale] = sorter;
        return unload(bale, kind, n, f, step);
    }

    /** Whether a sheet's numbers are none below 0 and no more than most in all. */
    private static boolean sheetFits(int most, int kind, int n, int f, int step) {
        long sum = 0;
        for (int i = 0; i < n; i++) {
            int pounds = entry(kind, f + i * step);
            if (pounds < 0) {
                return false;
            }
            sum += pounds;
        }
        return sum <= most;
    }

    private static int entry(int kind, int v) {
        switch (kind) {
            case 0:
                return (byte) v;
            case 1:
                return (short) v;
            default:
                return v;
        }
    }

    /** Brings a sheet's pounds into the STORE; answers the DUST. */
    private int unload(int bale, int kind, int n, int f, int step) {
        int dust = bales.weight[bale];
        for (int s = 0; s < n && s < SORTS_MOST; s++) {
            int pounds = entry(kind, f + s * step);
            bales.pounds[bale][s] = pounds;
            dust -= pounds;
            if (pounds > 0) {
                lots.add(s, bale, pounds);
            }
        }
        bales.dust[bale] = dust;
        return dust;
    }

    public int of(int bale, int what) {
        if (!bales.has(bale)) {
            return NONE;
        }
        switch (what) {
            case 0:
                return bales.weight[bale];
            case 1:
                return bales.dust[bale];
            case 2:
                return bales.sorter[bale];
            case 3:
                return lots.ofBale(bale);
            case 4:
                return cloths.ofBale(bale);
            case 5:
                return bales.lost[bale];
            default:
                return NONE;
        }
    }

    public int look(int bale, int side, int day, int weight, int damp) {
        boolean fits = bales.has(bale) && lies(side, 0, 1) && isDay(day);
        if (!fits || !lies(weight, 0, 9999) || !lies(damp, 0, 1000) || looks.size >= LOOKS_MOST) {
            return NONE;
        }
        return looks.add(bale, side, day, weight, damp);
    }

    public int as(int day) {
        if (!isDay(day)) {
            return NONE;
        }
        int before = looks.asDay;
        looks.asDay = day;
        return before;
    }

    public int off(int bale, int side) {
        return bales.has(bale) && lies(side, 0, 1) ? offOf(bale, side) : NONE;
    }

    public int due(int bale) {
        if (!bales.has(bale)) {
            return NONE;
        }
        int ours = offOf(bale, 0);
        int theirs = offOf(bale, 1);
        int less;
        if (ours != NONE && theirs != NONE) {
            less = (ours + theirs) / 2;
        } else {
            less = Math.max(0, Math.max(ours, theirs));
        }
        return (int) ((long) bales.weight[bale] * bales.rate[bale] * (1000 - less) / 1000);
    }

    /** OFF by the LOOK of a side that holds; NONE without one. */
    private int offOf(int bale, int side) {
        int look = looks.held(bale, side);
        if (!lies(look, 0, LOOKS_MOST - 1)) {
            return NONE;
        }
        int weight = bales.weight[bale];
        int dry = looks.weight[look] * (1000 - looks.damp[look]) / 1000;
        texts.clearLetters();
        texts.tell('l', inThousand(Math.max(0, weight - dry), weight));
        texts.tell('d', looks.damp[look]);
        texts.tell('q', bales.mark[bale]);
        if (bales.isSorted(bale)) {
            texts.tell('k', inThousand(bales.dust[bale], weight));
            texts.tell('o', inThousand(woolless(bale), weight));
        }
        return Math.max(0, Math.min(1000, texts.valueOf(bales.seller[bale])));
    }

    /** Pounds of a BALE in SORTS whose most WOOL is 0. */
    private int woolless(int bale) {
        int sum = 0;
        for (int s = 0; s < sorts.size; s++) {
            if (sorts.feature[SortBook.MOST_WOOL][s] == 0) {
                sum += bales.pounds[bale][s];
            }
        }
        return sum;
    }

    // ---- texts

    public int sign(int v) {
        return tape.length + 4 <= TAPE_MOST ? tape.add(v) : NONE;
    }

    public boolean end(int n) {
        if (!lies(n, 0, tape.length)) {
            return false;
        }
        tape.length = n;
        return true;
    }

    public int text(int what, int k) {
        int length = tape.length;
        tape.length = 0;
        boolean known = what == 0 && isSeller(k) || what == 2;
        if (!known && (what != 1 || texts.recipes >= RECIPES_MOST)) {
            return NO_TEXT;
        }
        int wrong = reader.read(tape.signs, length, what == 1);
        if (wrong != NONE) {
            return -1 - wrong;
        }
        if (what == 1) {
            return texts.addRecipe(reader.code, reader.size);
        }
        texts.keep(what == 0 ? k : Texts.PAY, reader.code, reader.size);
        return 0;
    }

    public int pay(int sorter) {
        if (!isSorter(sorter)) {
            return NONE;
        }
        int pounds = 0;
        int dust = 0;
        int opened = 0;
        for (int b = 0; b < bales.size; b++) {
            if (bales.sorter[b] == sorter) {
                pounds += bales.weight[b] - bales.dust[b];
                dust += bales.dust[b];
                opened++;
            }
        }
        int alike = doubles.alike(sorter, NONE);
        texts.clearLetters();
        texts.tell('p', pounds);
        texts.tell('z', dust);
        texts.tell('n', opened);
        texts.tell('e', alike == NONE ? 1000 : alike);
        return texts.valueOf(Texts.PAY);
    }

    // ---- store

    public int store(int sort, int what) {
        if (!sorts.has(sort) || !lies(what, 0, 1)) {
            return NONE;
        }
        int sum = 0;
        for (int s = 0; s < sorts.size; s++) {
            if (s == sort || what == 1 && sorts.isPart(s, sort)) {
                sum += lots.ofSort(s);
            }
        }
        return sum;
    }

    public int fire(int v) {
        return lies(v, 0, 1000) ? lots.burn(v, bales.lost) : NONE;
    }

    public int moth(int bale) {
        return bales.has(bale) ? lots.eat(bale, bales.lost) : NONE;
    }

    public int wipe(int sort, int p, int y) {
        if (!sorts.has(sort) || !lies(p, 1, 9999) || !lies(y, 0, 1000) || lots.ofSort(sort) < p) {
            return NONE;
        }
        lots.takeOut(sort, p, bales.lost);
        return p * y / 1000;
    }

    public int split(int sort, int week) throws NoSuchElementException {
        if (!sorts.has(sort) || !isDay(week)) {
            throw new NoSuchElementException();
        }
        long found = 0;
        for (int s = 0; s < sorts.size; s++) {
            if (sorts.parent[s] == sort) {
                found += bales.everOf(s);
            }
        }
        if (found == 0) {
            throw new NoSuchElementException();
        }
        int pounds = lots.ofSort(sort);
        long pence = -(long) pounds * sorts.priceIn(sort, week);
        for (int s = 0; s < sorts.size; s++) {
            if (sorts.parent[s] == sort) {
                pence += (long) pounds * bales.everOf(s) / found * sorts.priceIn(s, week);
            }
        }
        return (int) pence;
    }

    // ---- blends, cloth

    public int part(int sort, int v) {
        if (!sorts.has(sort) || !lies(v, 0, WHOLE)) {
            return NONE;
        }
        blend.parts[sort] = v;
        return blend.inAll();
    }

    public int judge(int recipe) {
        if (!texts.hasRecipe(recipe) || blend.inAll() != WHOLE) {
            return NONE;
        }
        tellBlend(blend.parts);
        return texts.firstBroken(recipe);
    }

    /** Tells the LETTERS of the BLEND that has these PARTS. */
    private void tellBlend(int[] parts) {
        int[] sums = blend.sums;
        int kinds = 0;
        int greatest = 0;
        Arrays.fill(sums, 0);
        for (int s = 0; s < sorts.size && s < parts.length; s++) {
            if (parts[s] > 0) {
                kinds++;
                greatest = Math.max(greatest, parts[s]);
                sorts.addFeatures(s, parts[s], sums);
            }
        }
        texts.clearLetters();
        texts.tell('r', sums[SortBook.RED] / WHOLE);
        texts.tell('g', sums[SortBook.GREEN] / WHOLE);
        texts.tell('b', sums[SortBook.BLUE] / WHOLE);
        texts.tell('s', sums[SortBook.STAPLE] / WHOLE);
        texts.tell('w', sums[SortBook.LEAST_WOOL] / WHOLE);
        texts.tell('v', sums[SortBook.MOST_WOOL] / WHOLE);
        texts.tell('n', kinds);
        texts.tell('m', greatest);
    }

    public int cost(int week) {
        if (!isDay(week) || blend.inAll() != WHOLE) {
            return NONE;
        }
        int pence = 0;
        for (int s = 0; s < sorts.size; s++) {
            pence += blend.parts[s] * sorts.priceIn(s, week);
        }
        return pence;
    }

    public int mix(int recipe, int bits, int p, int week) {
        boolean chosen = lies(bits, 1, (1 << sorts.size) - 1) && Integer.bitCount(bits) <= MIXED_MOST;
        boolean weighed = lies(p, 0, CLOTH_POUNDS_MOST) && p % WHOLE == 0;
        if (!texts.hasRecipe(recipe) || !chosen || !weighed || !isDay(week)) {
            return NONE;
        }
        blend.chosen = 0;
        for (int s = 0; s < sorts.size; s++) {
            if ((bits >> s & 1) == 1) {
                int most = p == 0 ? WHOLE : Math.min(WHOLE, lots.ofSort(s) / (p / WHOLE));
                blend.choose(s, sorts.priceIn(s, week), most);
            }
        }
        int pence = cheapest(recipe);
        if (pence >= 0) {
            blend.settle();
        }
        return pence;
    }

    /** Looks through all BLENDS of the SORTS chosen, by rows; the first of those that cost least is kept. */
    private int cheapest(int recipe) {
        int least = WHY_BELOW;
        boolean more = blend.startTrial();
        for (int turn = 0; more && turn < BLENDS_MOST; turn++) {
            int pence = blend.trialPence();
            boolean better = pence >= 0 && (least < 0 || pence < least);
            if (better && holdsTrial(recipe)) {
                least = pence;
                blend.keepTrial();
            }
            more = blend.nextTrial();
        }
        return least;
    }

    private boolean holdsTrial(int recipe) {
        tellBlend(blend.trial);
        return texts.firstBroken(recipe) == Texts.HOLDS_ALL;
    }

    public int make(int p) {
        if (!lies(p, WHOLE, CLOTH_POUNDS_MOST) || p % WHOLE != 0) {
            return NONE;
        }
        if (blend.inAll() != WHOLE || cloths.size >= CLOTHS_MOST || !hasFor(p / WHOLE)) {
            return NONE;
        }
        int cloth = cloths.add();
        for (int s = 0; s < sorts.size; s++) {
            lots.takeOut(s, blend.parts[s] * (p / WHOLE), cloths.pounds[cloth]);
        }
        return cloth;
    }

    /** Whether the STORE has so many pounds for each PART of THE BLEND. */
    private boolean hasFor(int poundsOfPart) {
        for (int s = 0; s < sorts.size; s++) {
            if (lots.ofSort(s) < blend.parts[s] * poundsOfPart) {
                return false;
            }
        }
        return true;
    }

    public int led(int cloth) {
        if (!cloths.has(cloth)) {
            return NONE;
        }
        int found = 0;
        toldSize = 0;
        for (int b = 0; b < bales.size; b++) {
            if (cloths.pounds[cloth][b] > 0) {
                tell(b);
                tell(cloths.pounds[cloth][b]);
                found++;
            }
        }
        return found;
    }

    public int fault(int cloth, int v) {
        if (!cloths.has(cloth) || !lies(v, 0, 2)) {
            return NONE;
        }
        int before = cloths.verdict[cloth];
        cloths.verdict[cloth] = v;
        return before;
    }

    public int suspects() {
        int found = cloths.findSuspects();
        if (found >= 0) {
            toldSize = 0;
            for (int i = 0; i < found; i++) {
                tell(cloths.suspect(i));
            }
        }
        return found;
    }

    // ---- bales foretold

    public int foretell(int seller, int mark, int sort) {
        if (!isSeller(seller) || mark != NONE && !isMark(mark) || !sorts.has(sort)) {
            return NONE;
        }
        int least = NONE;
        int greatest = NONE;
        int found = 0;
        for (int b = 0; b < bales.size; b++) {
            if (bales.isSorted(b) && bales.seller[b] == seller && (mark == NONE || bales.mark[b] == mark)) {
                int had = inThousand(poundsWithin(b, sort), bales.weight[b]);
                least = found == 0 ? had : Math.min(least, had);
                greatest = Math.max(greatest, had);
                found++;
            }
        }
        if (found == 0) {
            return NONE;
        }
        toldSize = 0;
        tell(least);
        tell(greatest);
        tell(found);
        return least;
    }

    /** Pounds that a BALE had of a SORT and of all within it. */
    private int poundsWithin(int bale, int sort) {
        int sum = 0;
        for (int s = 0; s < sorts.size; s++) {
            if (sorts.isPart(s, sort)) {
                sum += bales.pounds[bale][s];
            }
        }
        return sum;
    }

    // ---- sorters

    public int twice(int a, int x, int b, int y) {
        boolean fits = isSorter(a) && isSorter(b) && a != b && sorts.has(x) && sorts.has(y);
        return fits && doubles.size < DOUBLES_MOST ? doubles.add(a, x, b, y) : NONE;
    }

    public int eye(int sorter) {
        return isSorter(sorter) ? doubles.alike(sorter, NONE) : NONE;
    }

    public int met(int a, int b) {
        return isSorter(a) && isSorter(b) ? doubles.alike(a, b) : NONE;
    }

    public int called(int sorter, int x) {
        return isSorter(sorter) && sorts.has(x) ? doubles.mostOften(sorter, x) : NONE;
    }

    public int ring(int sorter) {
        if (!isSorter(sorter)) {
            return NONE;
        }
        int bits = doubles.hangingTogether(sorter);
        toldSize = 0;
        for (int s = 0; s < SORTERS; s++) {
            if ((bits >> s & 1) == 1) {
                tell(s);
            }
        }
        return toldSize;
    }

    // ---- lands

    public int wish(int land, int sort, int pence) throws NoSuchElementException {
        if (!isLand(land) || !sorts.has(sort) || pence != NONE && !lies(pence, 0, 999)) {
            throw new NoSuchElementException();
        }
        int before = lands.wishes[land][sort];
        lands.wishes[land][sort] = pence;
        return before;
    }

    public int takes(int land, int v) {
        if (!isLand(land) || !lies(v, 0, PACKS_MOST)) {
            return NONE;
        }
        int before = lands.room[land];
        lands.room[land] = v;
        return before;
    }

    public int pack(int sort, int p, int other, int q) {
        if (!sorts.has(sort) || !lies(p, 1, 9999) || !lies(q, 0, 9999) || lots.ofSort(sort) < p) {
            return NONE;
        }
        boolean joined = q == 0 || sorts.has(other) && other != sort && lots.ofSort(other) >= q;
        if (!joined || lands.packs >= PACKS_MOST) {
            return NONE;
        }
        lots.takeOut(sort, p, bales.lost);
        if (q > 0) {
            lots.takeOut(other, q, bales.lost);
        }
        return lands.addPack(sort, p, q == 0 ? sort : other, q);
    }

    public int gives(int land, int pack) {
        return isLand(land) && lands.hasPack(pack) ? lands.given(land, pack) : NONE;
    }

    public int share() {
        long most = lands.bestShare();
        toldSize = 0;
        for (int i = 0; i < lands.packs; i++) {
            tell(LandBook.landOf(most, i));
        }
        return LandBook.sumOf(most);
    }

    public int count(int what) {
        switch (what) {
            case 0:
                return sorts.size;
            case 1:
                return sorts.priced;
            case 2:
                return bales.size;
            case 3:
                return looks.size;
            case 4:
                return texts.recipes;
            case 5:
                return lots.withPounds();
            case 6:
                return cloths.size;
            case 7:
                return doubles.size;
            case 8:
                return lands.packs;
            case 9:
                return toldSize;
            case 10:
                return tape.length;
            case 11:
                return looks.asDay;
            case 12:
                return blend.inAll();
            default:
                return NONE;
        }
    }

    public int row(int i) throws NoSuchElementException {
        if (!lies(i, 0, toldSize - 1)) {
            throw new NoSuchElementException();
        }
        return told[i];
    }

    // ---- what several ask

    private static boolean lies(int v, int least, int most) {
        return v >= least && v <= most;
    }

    private static boolean isDay(int v) {
        return lies(v, 0, LAST_DAY);
    }

    private static boolean isSeller(int v) {
        return lies(v, 0, SELLERS - 1);
    }

    private static boolean isMark(int v) {
        return lies(v, 0, 7);
    }

    private static boolean isSorter(int v) {
        return lies(v, 0, SORTERS - 1);
    }

    private static boolean isLand(int v) {
        return lies(v, 0, LANDS - 1);
    }

    /** One more number of the ROW. */
    private void tell(int v) {
        if (toldSize < ROW_MOST) {
            told[toldSize] = v;
            toldSize++;
        }
    }

    private static int inThousand(int some, int whole) {
        return whole > 0 ? (int) ((long) some * 1000 / whole) : 0;
    }

    /** SORTS with their features, and the PRICES told of them. */
    private static final class SortBook {
        static final int RED = 0;
        static final int GREEN = 1;
        static final int BLUE = 2;
        static final int STAPLE = 3;
        static final int LEAST_WOOL = 4;
        static final int MOST_WOOL = 5;
        static final int FEATURES = 6;

        final int[][] feature = new int[FEATURES][SORTS_MOST];
        final int[] parent = new int[SORTS_MOST];
        int size = 0;
        final int[] priceSort = new int[PRICES_MOST];
        final int[] priceWeek = new int[PRICES_MOST];
        final int[] pricePence = new int[PRICES_MOST];
        int priced = 0;

        boolean has(int s) {
            return s >= 0 && s < size;
        }

        int add(int red, int green, int blue, int staple, int least, int most, int above) {
            if (size >= SORTS_MOST) {
                return NONE;
            }
            feature[RED][size] = red;
            feature[GREEN][size] = green;
            feature[BLUE][size] = blue;
            feature[STAPLE][size] = staple;
            feature[LEAST_WOOL][size] = least;
            feature[MOST_WOOL][size] = most;
            parent[size] = above;
            return size++;
        }

        void addFeatures(int s, int times, int[] sums) {
            for (int f = 0; f < FEATURES && f < sums.length; f++) {
                sums[f] += feature[f][s] * times;
            }
        }

        /** A PARENT is told ahead of its parts, so the way up has no more steps than there are SORTS. */
        boolean isPart(int s, int whole) {
            int up = s;
            for (int step = 0; step < SORTS_MOST && has(up); step++) {
                if (up == whole) {
                    return true;
                }
                up = parent[up];
            }
            return false;
        }

        int addPrice(int s, int week, int pence) {
            if (priced >= PRICES_MOST) {
                return NONE;
            }
            priceSort[priced] = s;
            priceWeek[priced] = week;
            pricePence[priced] = pence;
            priced++;
            return priced;
        }

        int priceIn(int s, int week) {
            int from = NONE;
            int pence = 0;
            for (int i = 0; i < priced; i++) {
                if (priceSort[i] == s && priceWeek[i] <= week && priceWeek[i] >= from) {
                    from = priceWeek[i];
                    pence = pricePence[i];
                }
            }
            return pence;
        }
    }

    /** BALES as they were bought, and what those that are SORTED had. */
    private static final class BaleBook {
        final int[] seller = new int[BALES_MOST];
        final int[] mark = new int[BALES_MOST];
        final int[] weight = new int[BALES_MOST];
        final int[] rate = new int[BALES_MOST];
        final int[] sorter = new int[BALES_MOST];
        final int[] dust = new int[BALES_MOST];
        final int[] lost = new int[BALES_MOST];
        final int[][] pounds = new int[BALES_MOST][SORTS_MOST];
        int size = 0;

        boolean has(int b) {
            return b >= 0 && b < size;
        }

        boolean isSorted(int b) {
            return has(b) && sorter[b] != NONE;
        }

        int add(int from, int marked, int heavy, int pence) {
            if (size >= BALES_MOST) {
                return NONE;
            }
            seller[size] = from;
            mark[size] = marked;
            weight[size] = heavy;
            rate[size] = pence;
            sorter[size] = NONE;
            dust[size] = NONE;
            return size++;
        }

        /** Pounds of a SORT alone that all BALES had when they were SORTED. */
        int everOf(int s) {
            int sum = 0;
            for (int b = 0; b < size; b++) {
                sum += pounds[b][s];
            }
            return sum;
        }
    }

    /** LOOKS, and the DAY as of which they are KNOWN. */
    private static final class LookBook {
        final int[] bale = new int[LOOKS_MOST];
        final int[] side = new int[LOOKS_MOST];
        final int[] day = new int[LOOKS_MOST];
        final int[] weight = new int[LOOKS_MOST];
        final int[] damp = new int[LOOKS_MOST];
        int size = 0;
        int asDay = LAST_DAY;

        int add(int b, int who, int when, int pounds, int wet) {
            if (size >= LOOKS_MOST) {
                return NONE;
            }
            bale[size] = b;
            side[size] = who;
            day[size] = when;
            weight[size] = pounds;
            damp[size] = wet;
            size++;
            return size;
        }

        int held(int b, int who) {
            int found = NONE;
            int from = NONE;
            for (int i = 0; i < size; i++) {
                if (bale[i] == b && side[i] == who && day[i] <= asDay && day[i] >= from) {
                    found = i;
                    from = day[i];
                }
            }
            return found;
        }
    }

    /** THE TAPE: signs that wait to be a text. */
    private static final class Tape {
        final int[] signs = new int[TAPE_MOST];
        int length = 0;

        int add(int v) {
            for (int shift = 24; shift >= 0 && length < TAPE_MOST; shift -= 8) {
                signs[length] = v >> shift & 255;
                length++;
            }
            return length;
        }
    }

    /**
     * Reads a text sign by sign into code for Texts: operands first, operators behind theirs. It keeps
     * its operators in a row of its own instead of calling itself, so that no depth of ( ) is too great.
     */
    private static final class Reader {
        static final int NEGATE = '~';
        static final int DIGITS_MOST = 4;
        static final int COMPARING = 3;
        /** The greatest level of an operator between two things; those ahead of a thing stand above it. */
        static final int JOINING_MOST = 5;
        /** Each sign gives one code at most, and the end of the text one more. */
        static final int CODE_MOST = TEXT_MOST + 4;

        final int[] code = new int[CODE_MOST];
        int size;
        final int[] waiting = new int[CODE_MOST];
        int waits;
        final boolean[] compared = new boolean[CODE_MOST];
        int depth;
        int digits;
        boolean wantsThing;
        boolean parted;

        /** The place of the first sign that can't stand in the text, or NONE: it is one. */
        int read(int[] signs, int length, boolean recipe) {
            begin(recipe);
            for (int i = 0; i < length && i < TEXT_MOST && i < signs.length; i++) {
                if (!(wantsThing ? begins(signs[i]) : goesOn(signs[i]))) {
                    return i;
                }
            }
            if (length > TEXT_MOST) {
                return TEXT_MOST;
            }
            if (wantsThing || depth > 0) {
                return length;
            }
            bringOut(1);
            if (recipe) {
                emit(-';');
            }
            return NONE;
        }

        private void begin(boolean recipe) {
            size = 0;
            waits = 0;
            depth = 0;
            digits = 0;
            compared[0] = false;
            wantsThing = true;
            parted = recipe;
        }

        /** A sign where a thing is wanted. */
        private boolean begins(int sign) {
            if (sign == '!' || sign == '-') {
                hold(sign == '-' ? NEGATE : sign);
                return true;
            }
            if (sign == '(') {
                hold(sign);
                depth++;
                if (depth < CODE_MOST) {
                    compared[depth] = false;
                }
                return true;
            }
            if (isDigit(sign)) {
                emit(sign - '0');
                digits = 1;
            } else if (isLetter(sign)) {
                emit(-sign);
                digits = 0;
            } else {
                return false;
            }
            wantsThing = false;
            return true;
        }

        /** A sign behind a thing. */
        private boolean goesOn(int sign) {
            if (isDigit(sign)) {
                return lengthen(sign - '0');
            }
            digits = 0;
            if (sign == ')') {
                return close();
            }
            if (sign == ';') {
                return partHere();
            }
            return joins(sign) && join(sign);
        }

        private boolean lengthen(int digit) {
            if (digits == 0 || digits >= DIGITS_MOST || size == 0) {
                return false;
            }
            digits++;
            code[size - 1] = code[size - 1] * 10 + digit;
            return true;
        }

        private boolean close() {
            if (depth == 0) {
                return false;
            }
            bringOut(1);
            if (waits > 0) {
                waits--;
            }
            depth--;
            return true;
        }

        private boolean partHere() {
            if (!parted || depth > 0) {
                return false;
            }
            bringOut(1);
            emit(-';');
            compared[0] = false;
            wantsThing = true;
            return true;
        }

        private boolean join(int sign) {
            int level = level(sign);
            if (depth >= CODE_MOST || level == COMPARING && compared[depth]) {
                return false;
            }
            if (level <= COMPARING) {
                compared[depth] = level == COMPARING;
            }
            bringOut(level);
            hold(sign);
            wantsThing = true;
            return true;
        }

        /** Operators that wait and bind as much or more come ahead; a ( has level 0 and stops it. */
        private void bringOut(int level) {
            while (waits > 0 && level(waiting[waits - 1]) >= level) {
                waits--;
                emit(-waiting[waits]);
            }
        }

        private void hold(int sign) {
            if (waits < CODE_MOST) {
                waiting[waits] = sign;
                waits++;
            }
        }

        private void emit(int v) {
            if (size < CODE_MOST) {
                code[size] = v;
                size++;
            }
        }

        /** How an operator binds: the document tells them from those that bind least, | first and & behind it. */
        private static int level(int sign) {
            switch (sign) {
                case '|':
                    return 1;
                case '&':
                    return 2;
                case '<':
                case '>':
                case '=':
                    return COMPARING;
                case '+':
                case '-':
                    return 4;
                case '*':
                case '/':
                case '%':
                    return JOINING_MOST;
                case '!':
                case NEGATE:
                    return JOINING_MOST + 1;
                default:
                    return 0;
            }
        }

        private static boolean joins(int sign) {
            return lies(level(sign), 1, JOINING_MOST);
        }

        private static boolean isDigit(int sign) {
            return lies(sign, '0', '9');
        }

        private static boolean isLetter(int sign) {
            switch (sign) {
                case 'l':
                case 'd':
                case 'k':
                case 'o':
                case 'q':
                case 'r':
                case 'g':
                case 'b':
                case 's':
                case 'w':
                case 'v':
                case 'n':
                case 'm':
                case 'p':
                case 'z':
                case 'e':
                    return true;
                default:
                    return false;
            }
        }
    }

    /** CONTRACTS, RECIPES and the PAY as code, and what works them out. */
    private static final class Texts {
        static final int HOLDS_ALL = -2;
        static final int FIRST_RECIPE = SELLERS;
        static final int PAY = SELLERS + RECIPES_MOST;
        static final int SLOTS = PAY + 1;

        final int[][] codes = new int[SLOTS][Reader.CODE_MOST];
        final int[] sizes = new int[SLOTS];
        final int[] letters = new int[26];
        final int[] stack = new int[Reader.CODE_MOST];
        int depth = 0;
        int recipes = 0;

        boolean hasRecipe(int r) {
            return r >= 0 && r < recipes;
        }

        void keep(int slot, int[] code, int size) {
            if (!lies(slot, 0, SLOTS - 1) || !lies(size, 0, Math.min(code.length, Reader.CODE_MOST))) {
                return;
            }
            System.arraycopy(code, 0, codes[slot], 0, size);
            sizes[slot] = size;
        }

        int addRecipe(int[] code, int size) {
            if (recipes >= RECIPES_MOST) {
                return NONE;
            }
            keep(FIRST_RECIPE + recipes, code, size);
            return recipes++;
        }

        void clearLetters() {
            Arrays.fill(letters, 0);
        }

        void tell(char letter, int v) {
            if (lies(letter, 'a', 'z')) {
                letters[letter - 'a'] = v;
            }
        }

        /** What a text without ; comes to; 0 before one was told. */
        int valueOf(int slot) {
            if (!lies(slot, 0, SLOTS - 1)) {
                return 0;
            }
            depth = 0;
            for (int i = 0; i < sizes[slot]; i++) {
                work(codes[slot][i]);
            }
            return pop();
        }

        int firstBroken(int recipe) {
            if (!hasRecipe(recipe)) {
                return NONE;
            }
            int[] code = codes[FIRST_RECIPE + recipe];
            int expression = 0;
            depth = 0;
            for (int i = 0; i < sizes[FIRST_RECIPE + recipe]; i++) {
                if (code[i] != -';') {
                    work(code[i]);
                } else if (pop() == 0) {
                    return expression;
                } else {
                    expression++;
                }
            }
            return HOLDS_ALL;
        }

        /** One code: a number as it is, a sign below 0. */
        private void work(int c) {
            if (c >= 0) {
                push(c);
            } else if (lies(-c, 'a', 'z')) {
                push(letters[-c - 'a']);
            } else if (c == -'!') {
                push(pop() == 0 ? 1 : 0);
            } else if (c == -Reader.NEGATE) {
                push(-pop());
            } else {
                int right = pop();
                push(joined(-c, pop(), right));
            }
        }

        private static int joined(int sign, int a, int b) {
            switch (sign) {
                case '|':
                    return a != 0 || b != 0 ? 1 : 0;
                case '&':
                    return a != 0 && b != 0 ? 1 : 0;
                case '<':
                    return a < b ? 1 : 0;
                case '>':
                    return a > b ? 1 : 0;
                case '=':
                    return a == b ? 1 : 0;
                case '+':
                    return a + b;
                case '-':
                    return a - b;
                case '*':
                    return a * b;
                case '/':
                    return b == 0 ? 0 : a / b;
                default:
                    return b == 0 ? 0 : a % b;
            }
        }

        private void push(int v) {
            if (depth < stack.length) {
                stack[depth] = v;
                depth++;
            }
        }

        private int pop() {
            if (depth == 0) {
                return 0;
            }
            depth--;
            return stack[depth];
        }
    }

    /** The STORE: LOTS in the order in which they came; empty ones stay, as no more than these can come. */
    private static final class Lots {
        static final int LOTS_MOST = BALES_MOST * SORTS_MOST;

        final int[] sort = new int[LOTS_MOST];
        final int[] bale = new int[LOTS_MOST];
        final int[] pounds = new int[LOTS_MOST];
        /** What there is of each SORT, so that no call has to add the LOTS up again. */
        final int[] bySort = new int[SORTS_MOST];
        int size = 0;

        void add(int s, int b, int p) {
            if (size < LOTS_MOST) {
                sort[size] = s;
                bale[size] = b;
                pounds[size] = p;
                bySort[s] += p;
                size++;
            }
        }

        int ofSort(int s) {
            return bySort[s];
        }

        int ofBale(int b) {
            int sum = 0;
            for (int i = 0; i < size; i++) {
                if (bale[i] == b) {
                    sum += pounds[i];
                }
            }
            return sum;
        }

        int withPounds() {
            int found = 0;
            for (int i = 0; i < size; i++) {
                if (pounds[i] > 0) {
                    found++;
                }
            }
            return found;
        }

        /** TAKES pounds of a SORT, and counts them to their BALES. */
        void takeOut(int s, int p, int[] byBale) {
            int left = p;
            for (int i = 0; i < size && left > 0; i++) {
                if (sort[i] == s) {
                    int some = Math.min(left, pounds[i]);
                    lessen(i, some, byBale);
                    left -= some;
                }
            }
        }

        int burn(int v, int[] lost) {
            int sum = 0;
            for (int i = 0; i < size; i++) {
                int some = (pounds[i] * v + 999) / 1000;
                lessen(i, some, lost);
                sum += some;
            }
            return sum;
        }

        int eat(int b, int[] lost) {
            int sum = 0;
            for (int i = 0; i < size; i++) {
                if (bale[i] == b) {
                    sum += pounds[i];
                    lessen(i, pounds[i], lost);
                }
            }
            return sum;
        }

        private void lessen(int lot, int p, int[] byBale) {
            pounds[lot] -= p;
            bySort[sort[lot]] -= p;
            byBale[bale[lot]] += p;
        }
    }

    /** THE BLEND, and the trials among which one is looked for. */
    private static final class Blend {
        final int[] parts = new int[SORTS_MOST];
        final int[] sums = new int[SortBook.FEATURES];
        /** The SORTS that a trial is of, with the PRICE and the most PARTS of each. */
        final int[] sort = new int[MIXED_MOST];
        final int[] pence = new int[MIXED_MOST];
        final int[] most = new int[MIXED_MOST];
        int chosen = 0;
        final int[] trial = new int[SORTS_MOST];
        final int[] kept = new int[SORTS_MOST];

        int inAll() {
            int sum = 0;
            for (int s = 0; s < SORTS_MOST; s++) {
                sum += parts[s];
            }
            return sum;
        }

        void choose(int s, int price, int partsMost) {
            if (chosen < MIXED_MOST) {
                sort[chosen] = s;
                pence[chosen] = price;
                most[chosen] = partsMost;
                chosen++;
            }
        }

        /** The first row: all PARTS of the last SORT. */
        boolean startTrial() {
            Arrays.fill(trial, 0);
            if (chosen == 0) {
                return false;
            }
            trial[sort[chosen - 1]] = WHOLE;
            return true;
        }

        /** The next row: the last SORT but the first that has PARTS gives one ahead, the rest goes to the end. */
        boolean nextTrial() {
            for (int i = chosen - 1; i > 0; i--) {
                int some = trial[sort[i]];
                if (some > 0) {
                    trial[sort[i]] = 0;
                    trial[sort[i - 1]]++;
                    trial[sort[chosen - 1]] = some - 1;
                    return true;
                }
            }
            return false;
        }

        /** What a trial costs; NONE if the STORE has not so much. */
        int trialPence() {
            int sum = 0;
            for (int i = 0; i < chosen; i++) {
                int some = trial[sort[i]];
                if (some > most[i]) {
                    return NONE;
                }
                sum += some * pence[i];
            }
            return sum;
        }

        void keepTrial() {
            System.arraycopy(trial, 0, kept, 0, SORTS_MOST);
        }

        void settle() {
            System.arraycopy(kept, 0, parts, 0, SORTS_MOST);
        }
    }

    /** CLOTH, what came of which BALE, and the search for SUSPECTS. */
    private static final class ClothBook {
        static final int GOOD = 0;
        static final int BAD = 1;
        static final int NOT_JUDGED = 2;
        static final int SUSPECTS_MOST = 4;
        /** The ways to choose 4 of 24 BALES. */
        static final int CHOICES_MOST = 10626;

        final int[][] pounds = new int[CLOTHS_MOST][BALES_MOST];
        final int[] verdict = new int[CLOTHS_MOST];
        int size = 0;
        /** BALES that may be SUSPECTS, with a bit for each BAD CLOTH that has some of them. */
        final int[] maybe = new int[BALES_MOST];
        final int[] bits = new int[BALES_MOST];
        int maybes = 0;
        final int[] chosen = new int[SUSPECTS_MOST];

        boolean has(int c) {
            return c >= 0 && c < size;
        }

        int add() {
            if (size >= CLOTHS_MOST) {
                return NONE;
            }
            verdict[size] = NOT_JUDGED;
            return size++;
        }

        int ofBale(int b) {
            int sum = 0;
            for (int c = 0; c < size; c++) {
                sum += pounds[c][b];
            }
            return sum;
        }

        int suspect(int i) {
            return lies(i, 0, SUSPECTS_MOST - 1) ? maybe[chosen[i]] : NONE;
        }

        int findSuspects() {
            int bad = 0;
            for (int c = 0; c < size; c++) {
                if (verdict[c] == BAD) {
                    bad |= 1 << c;
                }
            }
            if (bad == 0) {
                return 0;
            }
            findMaybes();
            for (int many = 1; many <= SUSPECTS_MOST && many <= maybes; many++) {
                if (chooseRow(many, bad)) {
                    return many;
                }
            }
            return WHY_BELOW;
        }

        private void findMaybes() {
            maybes = 0;
            for (int b = 0; b < BALES_MOST; b++) {
                int bad = badWith(b);
                if (bad != 0 && maybes < BALES_MOST) {
                    maybe[maybes] = b;
                    bits[maybes] = bad;
                    maybes++;
                }
            }
        }

        /** The BAD CLOTHS that have some of a BALE; none, if a GOOD one clears it. */
        private int badWith(int b) {
            int bad = 0;
            for (int c = 0; c < size; c++) {
                if (pounds[c][b] > 0) {
                    if (verdict[c] == GOOD) {
                        return 0;
                    }
                    if (verdict[c] == BAD) {
                        bad |= 1 << c;
                    }
                }
            }
            return bad;
        }

        /** Goes through the choices of so many by rows, and stops at the first that has all bad ones. */
        private boolean chooseRow(int many, int bad) {
            for (int i = 0; i < many; i++) {
                chosen[i] = i;
            }
            boolean more = true;
            for (int turn = 0; more && turn < CHOICES_MOST; turn++) {
                int had = 0;
                for (int i = 0; i < many; i++) {
                    had |= bits[chosen[i]];
                }
                if (had == bad) {
                    return true;
                }
                more = nextChoice(many);
            }
            return false;
        }

        private boolean nextChoice(int many) {
            for (int i = many - 1; i >= 0; i--) {
                if (chosen[i] < maybes - many + i) {
                    chosen[i]++;
                    for (int j = i + 1; j < many; j++) {
                        chosen[j] = chosen[j - 1] + 1;
                    }
                    return true;
                }
            }
            return false;
        }
    }

    /** DOUBLES: who called a piece what, and who else what. */
    private static final class Doubles {
        final int[][] who = new int[2][DOUBLES_MOST];
        final int[][] what = new int[2][DOUBLES_MOST];
        final int[] often = new int[SORTS_MOST];
        int size = 0;

        int add(int a, int x, int b, int y) {
            if (size >= DOUBLES_MOST) {
                return NONE;
            }
            who[0][size] = a;
            what[0][size] = x;
            who[1][size] = b;
            what[1][size] = y;
            size++;
            return size;
        }

        /** Of a SORTER's DOUBLES with another one (or any: NONE), in 1000 those called alike; NONE without one. */
        int alike(int a, int b) {
            int all = 0;
            int same = 0;
            for (int i = 0; i < size; i++) {
                if (isOf(i, 0, a, b) || isOf(i, 1, a, b)) {
                    all++;
                    same += what[0][i] == what[1][i] ? 1 : 0;
                }
            }
            return all == 0 ? NONE : inThousand(same, all);
        }

        private boolean isOf(int i, int side, int a, int b) {
            return who[side][i] == a && (b == NONE || who[1 - side][i] == b);
        }

        int mostOften(int a, int x) {
            Arrays.fill(often, 0);
            for (int i = 0; i < size; i++) {
                for (int side = 0; side < 2; side++) {
                    if (who[side][i] == a && what[side][i] == x) {
                        often[what[1 - side][i]]++;
                    }
                }
            }
            int found = NONE;
            int most = 0;
            for (int s = 0; s < SORTS_MOST; s++) {
                if (often[s] > most) {
                    most = often[s];
                    found = s;
                }
            }
            return found;
        }

        /** A bit for each SORTER of the ring; each turn reaches one step on, and no way has more than SORTERS. */
        int hangingTogether(int a) {
            int bits = 1 << a;
            for (int turn = 0; turn < SORTERS; turn++) {
                for (int i = 0; i < size; i++) {
                    int both = 1 << who[0][i] | 1 << who[1][i];
                    if ((bits & both) != 0) {
                        bits |= both;
                    }
                }
            }
            return bits;
        }
    }

    /** LANDS with their WISHES, PACKS, and how these are SHARED. */
    private static final class LandBook {
        static final int BARRED_THERE = -2;
        /** One more than a row of LANDS as digits of 5 can be: 5 to the 8th. */
        static final long ROWS = 390625L;
        /** What LAND numbers weigh in a row: the first PACK's most. */
        private static final int[] WEIGHT = {78125, 15625, 3125, 625, 125, 25, 5, 1};

        final int[][] wishes = new int[LANDS][SORTS_MOST];
        final int[] room = new int[LANDS];
        final int[] sort = new int[PACKS_MOST];
        final int[] pounds = new int[PACKS_MOST];
        final int[] other = new int[PACKS_MOST];
        final int[] otherPounds = new int[PACKS_MOST];
        int packs = 0;
        /** By the PACKS of a set (as bits): what one LAND gives for them all, and the best of the LANDS so far. */
        final long[] worth = new long[1 << PACKS_MOST];
        final long[] best = new long[1 << PACKS_MOST];

        boolean hasPack(int i) {
            return i >= 0 && i < packs;
        }

        int addPack(int s, int p, int o, int q) {
            if (packs >= PACKS_MOST) {
                return NONE;
            }
            sort[packs] = s;
            pounds[packs] = p;
            other[packs] = o;
            otherPounds[packs] = q;
            return packs++;
        }

        int given(int land, int i) {
            int first = wishes[land][sort[i]];
            int second = otherPounds[i] == 0 ? 0 : wishes[land][other[i]];
            return first == NONE || second == NONE ? BARRED_THERE : first * pounds[i] + second * otherPounds[i];
        }

        /**
         * The greatest sum, times ROWS, and with it the row: for each PACK a digit, the greater the lesser
         * its LAND's number, 0 for none. So no two ways are equal, and the greatest of all is the first row's.
         */
        long bestShare() {
            Arrays.fill(best, 0L);
            for (int land = 0; land < LANDS; land++) {
                weigh(land);
                // downwards, as a set needs those within it as they were before this LAND
                for (int set = (1 << packs) - 1; set > 0; set--) {
                    best[set] = bestWith(set);
                }
            }
            return best[(1 << packs) - 1];
        }

        /** What a LAND gives for each set of PACKS; below 0 if it can't have that. */
        private void weigh(int land) {
            worth[0] = 0;
            for (int i = 0; i < packs; i++) {
                int sum = given(land, i);
                long digit = (long) (LANDS - land) * WEIGHT[i];
                int bit = 1 << i;
                for (int set = 0; set < bit; set++) {
                    boolean can = sum >= 0 && worth[set] >= 0 && Integer.bitCount(set) < room[land];
                    worth[bit + set] = can ? worth[set] + sum * ROWS + digit : -1;
                }
            }
        }

        private long bestWith(int set) {
            long most = best[set];
            for (int some = set; some > 0; some = some - 1 & set) {
                if (worth[some] >= 0) {
                    most = Math.max(most, worth[some] + best[set - some]);
                }
            }
            return most;
        }

        static int sumOf(long shared) {
            return (int) (shared / ROWS);
        }

        static int landOf(long shared, int i) {
            if (!lies(i, 0, PACKS_MOST - 1)) {
                return NONE;
            }
            int digit = (int) (shared % ROWS / WEIGHT[i] % (LANDS + 1));
            return digit == 0 ? NONE : LANDS - digit;
        }
    }
}
