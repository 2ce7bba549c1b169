import java.lang.reflect.InvocationTargetException;
import java.lang.reflect.Method;
import java.util.ArrayList;
import java.util.Arrays;
import java.util.List;
import java.util.Random;

/** Long runs of all calls on a RagTown and a PlainTown at once: each answer and each exception has to be the same. */
final class TwinTest {
    /**
     * Each call with the numbers that it may be given, least:most; with an n behind, most is the last one of what
     * count(..) tells. Building calls stand first.
     */
    private static final String[] CALLS = {
        "sort 0:255 0:255 0:255 1:99 0:1000 0:1000 -1:0n", "sort 0:255 0:255 0:255 1:99 0:1000 0:1000 -1:0n",
        "price 0:0n 0:20 1:99", "price 0:0n 0:99 0:999", "sheet", "sheet", "bale 0:3 0:7 1:9999 0:999",
        "look 0:2n 0:1 0:99 0:9999 0:1000", "weigh", "twice 0:5 0:0n 0:5 0:0n", "text", "text", "blend",
        "at 0:0n 0:99", "within 0:0n 0:0n", "of 0:2n 0:5", "of 0:2n 3:5", "as 0:99", "as 50:99", "off 0:2n 0:1",
        "due 0:2n", "sign 0:2000000000", "end 0:100", "pay 0:5", "store 0:0n 0:1", "fire 0:50", "fire 0:1000",
        "moth 0:2n", "wipe 0:0n 1:400 0:1000", "split 0:0n 0:99", "part 0:0n 0:12", "judge 0:4n", "cost 0:99",
        "open 0:2n 0:5 0:3 0:0n 0:400 -20:60", "open 0:2n 0:5 2:3 -2:0n 0:400 -20:60", "mix", "mix", "mix", "cloth", "cloth", "cloth", "led 0:6n", "fault 0:6n 0:2",
        "fault 0:6n 1:1", "fault 0:6n 1:1", "suspects", "suspects", "foretell 0:3 -1:7 0:0n", "foretell 0:3 -1:-1 0:0n",
        "eye 0:5", "met 0:5 0:5", "called 0:5 0:0n", "ring 0:5", "wish 0:3 0:0n -1:999", "wish 0:3 0:0n 1:30",
        "takes 0:3 0:8", "takes 0:3 1:3", "pack 0:0n 1:40 0:0n 0:40", "pack 0:0n 1:300 0:0n 0:0", "gives 0:3 0:8n",
        "share", "count 0:12", "row 0:9n"};
    private static final int BUILDING = 13;
    private static final int CALLS_MOST = 512;

    private final int seed;
    private final Random dice;
    private final RagTown town = new RagTown();
    private final PlainTown plain = new PlainTown();
    /** The calls so far, the last one with what they answered. */
    private final List<String> told = new ArrayList<>();
    /** One call in so many has a number from outside. */
    private final int wild;
    private boolean agree = true;

    private TwinTest(int seed) {
        this.seed = seed;
        dice = new Random(seed);
        wild = new int[] {4, 12, 40, 200}[dice.nextInt(4)];
    }

    /** With a number ahead, so many runs. */
    public static void main(String[] args) {
        int runs = args.length > 0 ? Integer.parseInt(args[0]) : 400;
        for (int seed = 0; seed < runs; seed++) {
            new TwinTest(seed).run();
        }
        Check.finish();
    }

    private void run() {
        int built = 20 + dice.nextInt(120);
        while (agree && told.size() < CALLS_MOST - 40) {
            boolean building = told.size() < built || dice.nextInt(4) == 0;
            step(CALLS[dice.nextInt(building ? BUILDING : CALLS.length)]);
        }
        for (int what = 0; agree && what <= 12; what++) {
            call("count", what);
        }
        Check.yes("seed " + seed + " agrees" + (agree ? "" : ": " + told.subList(Math.max(0, told.size() - 40), told.size())),
            agree);
    }

    private void step(String told) {
        String[] words = told.split(" ");
        switch (words[0]) {
            case "text" -> text();
            case "blend" -> blend();
            case "mix" -> mix();
            case "sheet" -> sheet();
            case "weigh" -> weigh();
            case "cloth" -> cloth();
            default -> given(words);
        }
    }

    private boolean strays() {
        return dice.nextInt(wild) == 0;
    }

    /** Near the least, or anywhere; now and then the most, and seldom one outside. */
    private int within(int least, int most) {
        if (strays()) {
            int[] outside = {least - 1, most + 1, Integer.MIN_VALUE, Integer.MAX_VALUE, dice.nextInt()};
            return outside[dice.nextInt(outside.length)];
        }
        int range = Math.max(0, most - least);
        return least + switch (dice.nextInt(8)) {
            case 0 -> range;
            case 1, 2 -> dice.nextInt(Math.min(range, 3) + 1);
            case 3, 4 -> dice.nextInt(Math.min(range, 100) + 1);
            default -> dice.nextInt(range + 1);
        };
    }

    private void given(String[] words) {
        int[] v = new int[words.length - 1];
        for (int i = 0; i < v.length; i++) {
            String[] ends = words[i + 1].split(":");
            boolean counted = ends[1].endsWith("n");
            int most = Integer.parseInt(counted ? ends[1].substring(0, ends[1].length() - 1) : ends[1]);
            v[i] = within(Integer.parseInt(ends[0]), counted ? plain.count(most) - 1 : most);
        }
        if (words[0].equals("sort") && v[4] > v[5] && !strays()) {
            v[5] = dice.nextInt(4) == 0 ? 1000 : v[4];
        }
        if (words[0].equals("sort") && dice.nextInt(3) == 0) {
            v[4] = 0;
            v[5] = dice.nextInt(2);
        }
        call(words[0], v);
        if (dice.nextInt(3) == 0) {
            call("row", within(0, plain.count(9) - 1));
        }
    }

    /** PARTS that are 12 in all of some SORTS that there are. */
    private void blend() {
        int sorts = plain.count(0);
        for (int s = 0; s < sorts; s++) {
            call("part", s, 0);
        }
        for (int turn = 0; turn < 4 && sorts > 0; turn++) {
            int left = 12 - plain.count(12);
            call("part", dice.nextInt(sorts), turn == 3 ? Math.max(0, left) : dice.nextInt(Math.max(0, left) + 1));
        }
    }

    /** A BALE that is SORTED at once, by a sheet that mostly fits it. */
    private void sheet() {
        call("bale", within(0, 3), within(0, 7), 500 + dice.nextInt(dice.nextBoolean() ? 2000 : 9500), within(0, 999));
        int many = plain.count(0);
        int most = dice.nextInt(4) == 0 ? 40 : 400;
        call("open", plain.count(2) - 1, within(0, 5), within(1, 2), many, within(0, most), within(0, 20));
    }

    /** A BALE that both sides look at, and find not far from its TOLD WEIGHT. */
    private void weigh() {
        int bale = within(0, plain.count(2) - 1);
        for (int side = 0; side < 2; side++) {
            int weight = Math.max(0, plain.of(bale, 0) - dice.nextInt(100));
            call("look", bale, side, within(0, 99), weight, within(0, 300));
            call("off", bale, side);
        }
        call("due", bale);
    }

    private void cloth() {
        if (plain.count(12) != 12 || dice.nextInt(3) == 0) {
            blend();
        }
        call("make", strays() ? within(0, 9997) : 12 * (1 + dice.nextInt(dice.nextBoolean() ? 4 : 40)));
    }

    private void mix() {
        int sorts = plain.count(0);
        int bits = 0;
        for (int i = 0; i < 4 && sorts > 0; i++) {
            bits |= 1 << dice.nextInt(sorts + (strays() ? 3 : 0));
        }
        int p = dice.nextInt(3) == 0 ? 0 : 12 * dice.nextInt(dice.nextBoolean() ? 10 : 100);
        call("mix", within(0, plain.count(4) - 1), bits, strays() ? within(0, 9996) : p, within(0, 99));
    }

    private void text() {
        int what = within(0, 2);
        String signs = signs(what);
        call("end", 0);
        for (int i = 0; i < signs.length(); i += 4) {
            int v = 0;
            for (int j = i; j < i + 4; j++) {
                v = v << 8 | (j < signs.length() ? signs.charAt(j) : dice.nextInt(256));
            }
            call("sign", v);
        }
        call("end", signs.length());
        call("text", what, within(0, 3));
    }

    private String signs(int what) {
        String letters = dice.nextInt(8) == 0 ? "ldkoqrgbswvnmpze" : what == 0 ? "ldkoq" : what == 1 ? "rgbswvnm" : "pzne";
        String signs = expression(dice.nextInt(dice.nextInt(6) == 0 ? 7 : 4), letters);
        if (dice.nextInt(10) == 0) {
            signs = ("" + "(!-".charAt(dice.nextInt(3))).repeat(dice.nextInt(70)) + signs;
        }
        if (what == 1 && dice.nextBoolean()) {
            signs = letters.charAt(dice.nextInt(letters.length())) + (dice.nextBoolean() ? "<" : ">") + dice.nextInt(200);
        }
        while (what == 1 && dice.nextInt(3) == 0) {
            signs += ";" + expression(1, letters);
        }
        if (strays() && !signs.isEmpty()) {
            String any = "|&<>=+-*/%!();0159lx ~\u00ff";
            int at = dice.nextInt(signs.length());
            signs = signs.substring(0, at) + any.charAt(dice.nextInt(any.length())) + signs.substring(at + dice.nextInt(2));
        }
        return signs.length() > 100 ? signs.substring(0, 100) : signs;
    }

    private String expression(int depth, String letters) {
        if (depth == 0) {
            return dice.nextBoolean() ? "" + letters.charAt(dice.nextInt(letters.length()))
                : "" + dice.nextInt(dice.nextBoolean() ? 20 : 10000);
        }
        String one = expression(depth - 1, letters);
        return switch (dice.nextInt(8)) {
            case 0 -> "(" + one + ")";
            case 1 -> "!" + one;
            case 2 -> "-" + one;
            case 3 -> one;
            default -> one + "|&<>=+-*/%".charAt(dice.nextInt(10)) + expression(depth - 1, letters);
        };
    }

    private void call(String name, int... v) {
        if (!agree || told.size() >= CALLS_MOST) {
            return;
        }
        Object got = answer(town, name, v);
        Object want = answer(plain, name, v);
        told.add(name + Arrays.toString(v) + " " + got);
        Check.yes("seed " + seed + " call " + told.size() + " " + name + Arrays.toString(v) + " answers " + got
            + ", the plain one " + want, got.equals(want));
        agree = got.equals(want);
    }

    private static Object answer(Object on, String name, int[] v) {
        Class<?>[] types = new Class<?>[v.length];
        Object[] given = new Object[v.length];
        for (int i = 0; i < v.length; i++) {
            types[i] = int.class;
            given[i] = v[i];
        }
        try {
            Method method = on.getClass().getMethod(name, types);
            return method.invoke(on, given);
        } catch (InvocationTargetException e) {
            return e.getCause().getClass();
        } catch (ReflectiveOperationException e) {
            throw new IllegalStateException(e);
        }
    }
}
