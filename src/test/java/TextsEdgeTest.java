/** Promises 13 to 16 and what "Terms" say of TEXTS, sentence by sentence. */
final class TextsEdgeTest {
    private static final String[] LEVELS = {"|", "&", "<>=", "+-", "*/%"};
    private static final String JOINS = "|&<>=+-*/%";
    private static final String LETTERS = "ldkoqrgbswvnmpze";
    private static final String OF_CONTRACT = "ldkoq";
    private static final String OF_RECIPE = "rgbswvnm";
    private static final String OF_PAY = "pzne";
    private static final String DIGITS = "0123456789";
    private static final int LEAST = Integer.MIN_VALUE;

    public static void main(String[] args) {
        highestByteFirst();
        aHundredSigns();
        firstSignsAlone();
        kindsOfText();
        sixRecipes();
        askedFirst();
        emptyThen();
        textsThatStay();
        signsThatCanStand();
        itsEnd();
        sixtySigns();
        bindingPairs();
        inBrackets();
        aheadOfASemicolon();
        behindATextThatIsNone();
        aheadOfAThing();
        fromTheLeft();
        behindAndCut();
        asInts();
        oneOrNone();
        notOfTheKind();
        lettersOfABlend();
        eachNotNone();
        numbersOfPay();
        payAtFirst();
        lettersOfThePay();
        Check.finish();
    }

    /** "Four signs come behind THE TAPE, of v the highest byte first: how many it has." */
    private static void highestByteFirst() {
        RagTown x = new RagTown();
        Check.is("1234", x.sign(0x31323334), 4);
        Check.is("as a text", x.text(2, 0), 0);
        Check.is("its value", x.pay(0), 1234);
        x.sign(0x312b2b32);
        Check.is("the third of four", x.text(2, 0), -3);
        int[] signs = {0x00313131, 0x7f313131, 0x80313131, 0xb1313131, 0xff313131, 0x31000000, 0x31800000, 0x31b10000};
        int[] places = {0, 0, 0, 0, 0, 1, 1, 1};
        for (int i = 0; i < signs.length; i++) {
            Check.is("four signs", x.sign(signs[i]), 4);
            Check.is("no sign of a text " + i, x.text(2, 0), -1 - places[i]);
        }
        x.sign(0x31310000);
        x.end(2);
        Check.is("behind two", x.sign(0x2d393939), 6);
        Check.is("11-999", x.text(2, 0), 0);
        Check.is("its value", x.pay(0), -988);
    }

    /** "Refused: there would be more than 100." */
    private static void aHundredSigns() {
        for (int n = 93; n <= 100; n++) {
            int had = n;
            if (n <= 96) {
                Check.is("behind " + n, ones(n).sign(0x31313131), n + 4);
            } else {
                Check.refused("behind " + n, () -> ones(had), x -> x.sign(0x31313131), -1);
            }
        }
        RagTown x = ones(100);
        Check.is("full", x.count(10), 100);
        Check.is("one more", x.sign(0), -1);
        Check.yes("room again", x.end(96));
        Check.is("full again", x.sign(0), 100);
    }

    /** So many signs on THE TAPE. */
    private static RagTown ones(int n) {
        RagTown x = new RagTown();
        for (int i = 0; i < n; i += 4) {
            x.sign(0x31313131);
        }
        x.end(n);
        return x;
    }

    /** "THE TAPE has its first n signs alone: true; false if it has not so many, or n is below 0." */
    private static void firstSignsAlone() {
        Check.ends("n", Town::busy, (x, v) -> x.end(v) ? 1 : 0, 0, 5, 0);
        for (int n = 0; n <= 8; n++) {
            RagTown x = new RagTown();
            x.sign(0x31323334);
            x.sign(0x35363738);
            Check.yes("end " + n, x.end(n));
            Check.is("signs", x.count(10), n);
            Check.no("more than it has", x.end(n + 1));
            Check.is("signs still", x.count(10), n);
            Check.is("as a text", x.text(2, 0), n == 0 ? -1 : n <= 4 ? 0 : -5);
            Check.is("the first ones", x.pay(0), n == 0 || n > 4 ? 0 : Integer.parseInt("1234".substring(0, n)));
        }
    }

    private static RagTown taped() {
        RagTown x = Town.busy();
        Check.tape(x, "1234");
        return x;
    }

    /** What a town shows once THE TAPE is empty. */
    private static RagTown emptied() {
        RagTown x = Town.busy();
        x.end(0);
        return x;
    }

    /** "what 0: the CONTRACT of SELLER k, 1: a RECIPE, 2: the PAY (k doesn't matter in 1, 2)", "no such what, SELLER" */
    private static void kindsOfText() {
        for (int what : new int[] {-1, 3, LEAST, Integer.MAX_VALUE}) {
            refusedButForTheTape("what " + what, what, 0, -100);
        }
        for (int k : new int[] {-1, 4, LEAST, Integer.MAX_VALUE}) {
            refusedButForTheTape("SELLER " + k, 0, k, -100);
            Check.is("a RECIPE with k " + k, taped().text(1, k), 2);
            Check.is("the PAY with k " + k, taped().text(2, k), 0);
        }
        for (int k = 0; k < 4; k++) {
            RagTown x = Town.withSorts(1);
            x.bale(k, 0, 5, 0);
            x.look(0, 0, 0, 0, 0);
            Check.is("SELLER " + k, Check.text(x, 0, k, "77"), 0);
            Check.is("its CONTRACT", x.off(0, 0), 77);
        }
    }

    private static void refusedButForTheTape(String name, int what, int k, int want) {
        RagTown x = taped();
        Check.is(name, x.text(what, k), want);
        Check.same(name + " empties THE TAPE alone", Town.seen(x), Town.seen(emptied()));
    }

    /** "RECIPES 0 .. (at most 6)" */
    private static void sixRecipes() {
        RagTown x = Town.busy();
        for (int r = 2; r < 6; r++) {
            Check.is("not this one", Check.text(x, 1, 0, "1;"), -3);
            Check.is("RECIPE " + r, Check.text(x, 1, 0, r < 5 ? "1;1" : "1;0"), r);
        }
        Check.is("6 RECIPES", x.count(4), 6);
        Check.is("the last", x.judge(5), 1);
        Check.is("the last but one", x.judge(4), -2);
        Check.is("a seventh", Check.text(x, 1, 0, "1"), -100);
        Check.is("THE TAPE is empty", x.count(10), 0);
        Check.is("6 RECIPES still", x.count(4), 6);
        Check.is("the last still", x.judge(5), 1);
        Check.is("none behind it", x.judge(6), -1);
        Check.is("a CONTRACT still", Check.text(x, 0, 0, "1"), 0);
        Check.is("the PAY still", Check.text(x, 2, 0, "1"), 0);
    }

    /** "-100: .. (asked first; ..)" */
    private static void askedFirst() {
        String[] texts = {"", ")", "1+", "1".repeat(61)};
        for (String text : texts) {
            Check.is("what -1 of " + text, Check.text(Town.busy(), -1, 0, text), -100);
            Check.is("what 3 of " + text, Check.text(Town.busy(), 3, 0, text), -100);
            Check.is("SELLER 4 of " + text, Check.text(Town.busy(), 0, 4, text), -100);
            RagTown x = new RagTown();
            for (int r = 0; r < 6; r++) {
                Check.text(x, 1, 0, "1");
            }
            Check.is("a seventh RECIPE of " + text, Check.text(x, 1, 0, text), -100);
        }
    }

    /** "THE TAPE, which is empty then" */
    private static void emptyThen() {
        int[] whats = {0, 1, 2, 0, 1, 2, 3, 0};
        String[] texts = {"1", "1", "1", "(", "(", "(", "1", "1"};
        for (int i = 0; i < whats.length; i++) {
            RagTown x = Town.busy();
            Check.text(x, whats[i], i == 7 ? 4 : 0, texts[i]);
            Check.is("emptied by " + i, x.count(10), 0);
            Check.no("no sign there", x.end(1));
            Check.is("the next four", x.sign(0x31323334), 4);
            Check.is("a text of their own", x.text(2, 0), 0);
            Check.is("their value", x.pay(0), 1234);
        }
    }

    /** A text that is none changes nothing but THE TAPE. */
    private static void textsThatStay() {
        String[] wrong = {"", "1+", "1)", "q|", "1".repeat(5)};
        for (String text : wrong) {
            for (int what = 0; what <= 2; what++) {
                RagTown x = Town.busy();
                Check.yes("it is none", Check.text(x, what, 3, text) < 0);
                Check.same("no text of " + text + " as " + what, Town.seen(x), Town.seen(emptied()));
            }
        }
    }

    /** "p is the place of the first sign that can't stand there": each sign at each kind of place. */
    private static void signsThatCanStand() {
        String begins = DIGITS + LETTERS + "(!-";
        String[] wanted = {"", "(", "!", "-", "1+", "1<", "1|", "((", "(1*", "!!", "--", "1-"};
        for (String ahead : wanted) {
            each(ahead, begins, false);
            each(ahead, begins, true);
        }
        each("1;", begins, true);
        each("1<2;", begins, true);
        String[] behind = {"p", "1", "0", "123", "1234", "(1)", "!1", "-e", "1+2", "1<2", "(1<2)", "1<2|3", "1<2&3",
            "1<2|3>4", "p=e", "1<2+3", "1<2*(3)"};
        for (String ahead : behind) {
            boolean number = Character.isDigit(ahead.charAt(ahead.length() - 1)) && !ahead.equals("1234");
            boolean compared = ahead.matches("1<2|1<2.3>4|p=e|1<2[+*].*");
            String goesOn = (number ? DIGITS : "") + (compared ? "|&+-*/%" : JOINS);
            each(ahead, goesOn, false);
            each(ahead, goesOn + ";", true);
            each("(" + ahead, goesOn + ")", false);
            each("(" + ahead, goesOn + ")", true);
        }
    }

    /** Behind such signs those of may can stand, and no others. */
    private static void each(String ahead, String may, boolean recipe) {
        RagTown x = new RagTown();
        for (int i = 0; i < 256; i++) {
            if (i % 50 == 0 || x.count(4) == 6) {
                x = new RagTown();
            }
            String text = ahead + (char) i;
            int want;
            if (may.indexOf(i) < 0) {
                want = -1 - ahead.length();
            } else if (canEnd(text)) {
                want = recipe ? x.count(4) : 0;
            } else {
                want = -1 - text.length();
            }
            Check.is((recipe ? "RECIPE " : "PAY ") + ahead + " and sign " + i, Check.text(x, recipe ? 1 : 2, 0, text), want);
        }
    }

    /** Whether a text whose signs can all stand ends with a thing, with as many ) as (. */
    private static boolean canEnd(String text) {
        int open = 0;
        for (char sign : text.toCharArray()) {
            open += sign == '(' ? 1 : sign == ')' ? -1 : 0;
        }
        return open == 0 && (DIGITS + LETTERS + ")").indexOf(text.charAt(text.length() - 1)) >= 0;
    }

    /** "(its end, if it ends too early; ..)" */
    private static void itsEnd() {
        String[] early = {"", "(", "!", "-", "1+", "1<", "(1", "((1)", "1|(2", "!(", "1*-", "(1+2", "(".repeat(59),
            "1+".repeat(29), "1+".repeat(29) + "(", "(" + "1+".repeat(28) + "1"};
        for (String text : early) {
            Check.is("early " + text, Check.text(new RagTown(), 2, 0, text), -1 - text.length());
            Check.is("early RECIPE " + text, Check.text(new RagTown(), 1, 0, text), -1 - text.length());
            if (text.length() <= 58) {
                Check.is("early behind ; " + text, Check.text(new RagTown(), 1, 0, "1;" + text), -3 - text.length());
            }
        }
    }

    /** "A text has at most 60 signs.", "60, if it has more and the first 60 could go on or end" */
    private static void sixtySigns() {
        String sum = "1+".repeat(50);
        int[] lengths = {1, 57, 59, 60, 61, 63, 99, 100};
        for (int n : lengths) {
            String text = sum.substring(0, n);
            int want = n > 60 ? -61 : n % 2 == 1 ? 0 : -1 - n;
            Check.is("a sum of " + n, Check.text(new RagTown(), 2, 0, text), want);
            Check.is("a RECIPE of " + n, Check.text(new RagTown(), 1, 0, text), want);
            Check.is("a CONTRACT of " + n, Check.text(new RagTown(), 0, 0, text), want);
        }
        String full = "1+".repeat(29) + "11";
        Check.is("60 that end", Check.text(new RagTown(), 2, 0, full), 0);
        String[] more = {"1", "+", ")", "?", "\0", "+1", ")))", "1+1+1+1+1+1+1+1+1+1+1+1+1+1+1+1+1+1+1+1"};
        for (String rest : more) {
            Check.is("60 that could end, and " + rest, Check.text(new RagTown(), 2, 0, full + rest), -61);
            Check.is("60 that could go on, and " + rest, Check.text(new RagTown(), 2, 0, "1+".repeat(30) + rest), -61);
            Check.is("60 open, and " + rest, Check.text(new RagTown(), 2, 0, "(".repeat(60) + rest), -61);
        }
        for (int place : new int[] {0, 1, 30, 58, 59}) {
            StringBuilder text = new StringBuilder(sum);
            text.setCharAt(place, '?');
            Check.is("100 signs, wrong at " + place, Check.text(new RagTown(), 2, 0, text.toString()), -1 - place);
            Check.is("60 signs, wrong at " + place, Check.text(new RagTown(), 2, 0, text.substring(0, 60)), -1 - place);
        }
        RagTown x = new RagTown();
        Check.is("60 times a digit and ;", Check.text(x, 1, 0, "1;".repeat(30)), -61);
        Check.is("59 of them", Check.text(x, 1, 0, "1;".repeat(29) + "0"), 0);
        Check.is("30 deep", Check.text(x, 2, 0, "(".repeat(29) + "12" + ")".repeat(29)), 0);
        Check.is("its value", x.pay(0), 12);
        Check.is("60 signs ahead of none", Check.text(x, 2, 0, "!".repeat(60)), -61);
        Check.is("the PAY stays", x.pay(0), 12);
    }

    private static int value(String text) {
        RagTown x = new RagTown();
        Check.is("text " + text, Check.text(x, 2, 0, text), 0);
        return x.pay(0);
    }

    private static int level(char join) {
        for (int level = 0; level < LEVELS.length; level++) {
            if (LEVELS[level].indexOf(join) >= 0) {
                return level;
            }
        }
        return -1;
    }

    private static int joined(char join, int a, int b) {
        switch (join) {
            case '|': return a != 0 || b != 0 ? 1 : 0;
            case '&': return a != 0 && b != 0 ? 1 : 0;
            case '<': return a < b ? 1 : 0;
            case '>': return a > b ? 1 : 0;
            case '=': return a == b ? 1 : 0;
            case '+': return a + b;
            case '-': return a - b;
            case '*': return a * b;
            case '/': return b == 0 ? 0 : a / b;
            default: return b == 0 ? 0 : a % b;
        }
    }

    /** "from those that bind least: | & then < > = (.. not one behind the other) then + - then * / %": all pairs */
    private static void bindingPairs() {
        int[][] things = {{0, 0, 0}, {0, 0, 1}, {0, 1, 0}, {1, 0, 0}, {1, 1, 0}, {0, 1, 1}, {9, 4, 2}, {2, 7, 3}, {5, 5, 1},
            {3, 0, 7}, {7, 2, 2}};
        for (char first : JOINS.toCharArray()) {
            for (char second : JOINS.toCharArray()) {
                boolean twice = level(first) == 2 && level(second) == 2;
                for (int[] t : things) {
                    String text = "" + t[0] + first + t[1] + second + t[2];
                    if (twice) {
                        Check.is("one behind the other " + text, Check.text(new RagTown(), 2, 0, text), -4);
                    } else if (level(first) >= level(second)) {
                        Check.is(text, value(text), joined(second, joined(first, t[0], t[1]), t[2]));
                    } else {
                        Check.is(text, value(text), joined(first, t[0], joined(second, t[1], t[2])));
                    }
                }
            }
        }
        Check.is("in ( )", value("(3>2)>0"), 1);
        Check.is("in ( ) behind", value("1=(0<5)"), 1);
        Check.is("behind +", Check.text(new RagTown(), 2, 0, "1<2+3<4"), -6);
        Check.is("parted by |", value("5<4|4<5"), 1);
        Check.is("parted by &", value("5<4&4<5"), 0);
    }

    /** "an EXPRESSION in ( )": it is a thing, whatever stands round it */
    private static void inBrackets() {
        int[][] things = {{0, 0, 1}, {0, 1, 0}, {1, 0, 0}, {1, 1, 0}, {0, 1, 1}, {9, 4, 2}, {2, 7, 3}, {3, 0, 7}};
        for (char first : JOINS.toCharArray()) {
            for (char second : JOINS.toCharArray()) {
                for (int[] t : things) {
                    String left = "(" + t[0] + first + t[1] + ")" + second + t[2];
                    Check.is(left, value(left), joined(second, joined(first, t[0], t[1]), t[2]));
                    String right = t[0] + "" + first + "(" + t[1] + second + t[2] + ")";
                    Check.is(right, value(right), joined(first, t[0], joined(second, t[1], t[2])));
                }
            }
        }
    }

    /** "EXPRESSIONS with ; between": no operator of one reaches into the next */
    private static void aheadOfASemicolon() {
        int[][] things = {{0, 0}, {0, 1}, {1, 0}, {1, 1}, {5, 2}, {2, 5}};
        for (char join : JOINS.toCharArray()) {
            for (int[] t : things) {
                int v = joined(join, t[0], t[1]);
                String one = "" + t[0] + join + t[1];
                String[] texts = {one, one + ";1", "1;" + one, "1;" + one + ";1", one + ";" + one, "2<3;" + one + ";2>3",
                    "!0|" + one + ";" + one, one + ";1|0"};
                int[] firsts = {0, 0, 1, 1, 0, 1, 1, 0};
                for (int i = 0; i < texts.length; i++) {
                    RagTown x = Town.withSorts(1);
                    x.part(0, 12);
                    Check.is("RECIPE " + texts[i], Check.text(x, 1, 0, texts[i]), 0);
                    Check.is("judge " + texts[i], x.judge(0), v == 0 ? firsts[i] : i == 5 ? 2 : -2);
                }
            }
        }
    }

    /** One text leaves nothing for the next, be it one or none. */
    private static void behindATextThatIsNone() {
        String[] wrong = {"1*", "7-", "(", "((9*", "!", "-", "1|", "0&", "1<", "(1<2", "(1<2<3", "1<2<3", "4)", "2*3+", "9%(",
            "(1|(2&(3<4", "1+2*", "12345", "-(", "!(5", "1/0/", "(8)7", "1;2*3", ""};
        String[] right = {"5", "1<2", "7-2*3", "(4)", "!0", "-6", "9-4-3", "0|0", "3*(2+1)"};
        int[] values = {5, 1, 1, 4, 1, -6, 2, 0, 9};
        for (String none : wrong) {
            for (int i = 0; i < right.length; i++) {
                RagTown x = Town.withSorts(1);
                x.part(0, 12);
                Check.yes("none: " + none, Check.text(x, 2, 0, none) < 0);
                Check.is(right[i] + " behind " + none, Check.text(x, 2, 0, right[i]), 0);
                Check.is("its value", x.pay(0), values[i]);
                Check.yes("no RECIPE: " + none, Check.text(x, 1, 0, none + "*") < 0);
                Check.is("RECIPE " + right[i] + " behind it", Check.text(x, 1, 0, right[i] + ";" + right[i]), 0);
                Check.is("judge", x.judge(0), values[i] == 0 ? 0 : -2);
                Check.is("PAY " + right[i] + " behind a RECIPE", Check.text(x, 2, 0, right[i]), 0);
                Check.is("its value", x.pay(0), values[i]);
            }
        }
    }

    /** "then ahead of a thing ! and - (any many)" */
    private static void aheadOfAThing() {
        int[][] things = {{0, 0}, {0, 3}, {3, 0}, {1, 1}, {7, 2}};
        for (char join : JOINS.toCharArray()) {
            for (int[] t : things) {
                int not = t[0] == 0 ? 1 : 0;
                int notBehind = t[1] == 0 ? 1 : 0;
                Check.is("- ahead", value("-" + t[0] + join + t[1]), joined(join, -t[0], t[1]));
                Check.is("! ahead", value("!" + t[0] + join + t[1]), joined(join, not, t[1]));
                Check.is("- behind", value("" + t[0] + join + "-" + t[1]), joined(join, t[0], -t[1]));
                Check.is("! behind", value("" + t[0] + join + "!" + t[1]), joined(join, t[0], notBehind));
                Check.is("-! ahead", value("-!" + t[0] + join + t[1]), joined(join, -not, t[1]));
                Check.is("!- ahead", value("!-" + t[0] + join + t[1]), joined(join, not, t[1]));
            }
        }
        for (int n = 0; n <= 58; n++) {
            Check.is(n + " times -", value("-".repeat(n) + "7"), n % 2 == 0 ? 7 : -7);
            Check.is(n + " times !", value("!".repeat(n) + "7"), n == 0 ? 7 : n % 2 == 0 ? 1 : 0);
        }
        Check.is("ahead of ( )", value("-(2+3)*2"), -10);
        Check.is("! ahead of ( )", value("!(2-2)+5"), 6);
        Check.is("ahead of a LETTER", value("-e+!n"), -999);
    }

    /** "+ - * / % from the left" */
    private static void fromTheLeft() {
        Check.is("-", value("9-4-3-1"), 1);
        Check.is("- and +", value("9-4+3-1"), 7);
        Check.is("/", value("100/5/4/2"), 2);
        Check.is("/ and *", value("100/7*7"), 98);
        Check.is("* and /", value("7*100/7"), 100);
        Check.is("%", value("100%60%7"), 5);
        Check.is("% and *", value("100%60*7"), 280);
        Check.is("% and /", value("100%60/7"), 5);
        Check.is("/ and %", value("100/6%7"), 2);
    }

    /** "0 behind / and % gives 0; cut" */
    private static void behindAndCut() {
        String[] texts = {"5/0", "0/0", "5%0", "0%0", "-5/0", "7/2", "-7/2", "7/-2", "-7/-2", "7%2", "-7%2", "7%-2", "-7%-2",
            "1/2", "-1/2", "9/(3-3)", "9%(3-3)", "9/(0*5)+1", "9999/9999", "9998/9999", "0/5", "5%5", "4%5"};
        int[] want = {0, 0, 0, 0, 0, 3, -3, -3, 3, 1, -1, 1, -1, 0, 0, 0, 0, 1, 1, 0, 0, 0, 4};
        for (int i = 0; i < texts.length; i++) {
            Check.is(texts[i], value(texts[i]), want[i]);
        }
    }

    /** "As ints": they wrap round. */
    private static void asInts() {
        String least = "8192*8192*32";
        Check.is("the least", value(least), LEAST);
        Check.is("the greatest", value(least + "-1"), Integer.MAX_VALUE);
        Check.is("one behind it", value("(" + least + "-1)+1"), LEAST);
        Check.is("the least negated", value("-(" + least + ")"), LEAST);
        Check.is("by -1", value(least + "/-1"), LEAST);
        Check.is("% -1", value(least + "%-1"), 0);
        Check.is("by 0", value(least + "/0"), 0);
        Check.is("is below 0", value(least + "<0"), 1);
        Check.is("is not 0", value("!(" + least + ")"), 0);
        Check.is("2 to the 32nd", value("8192*8192*64"), 0);
        Check.is("2 to the 32nd, not", value("!(8192*8192*64)"), 1);
        Check.is("9999 thrice", value("9999*9999*9999"), (int) (9999L * 9999 * 9999));
        Check.is("no difference of more than an int", value("(" + least + ")>1"), 0);
    }

    /** "| & ! give 1 or 0 (0 is false)", "< > = (two, 1 or 0; ..)" */
    private static void oneOrNone() {
        String[] texts = {"7|0", "0|7", "7|9", "0|0", "7&9", "7&0", "0&7", "0&0", "-7|0", "-7&-9", "!7", "!0", "!-7", "2=2",
            "2=3", "2<3", "3<3", "4<3", "3>2", "3>3", "2>3", "-2<-1", "-1>-2", "7|1/0", "0&1/0", "4&2", "1|2"};
        int[] want = {1, 1, 1, 0, 1, 0, 0, 0, 1, 1, 0, 1, 0, 1,
            0, 1, 0, 0, 1, 0, 0, 1, 1, 1, 0, 1, 1};
        for (int i = 0; i < texts.length; i++) {
            Check.is(texts[i], value(texts[i]), want[i]);
        }
    }

    /** "All LETTERS told below can stand in all TEXTS; those that are not of the kind are 0." */
    private static void notOfTheKind() {
        RagTown x = Town.busy();
        x.judge(0);
        for (char letter : LETTERS.toCharArray()) {
            if (x.count(4) == 6) {
                x = Town.busy();
            }
            Check.is("CONTRACT " + letter, Check.text(x, 0, 0, letter + "+1"), 0);
            Check.is("PAY " + letter, Check.text(x, 2, 0, letter + "+1"), 0);
            Check.is("RECIPE " + letter, Check.text(x, 1, 0, letter + "=0"), x.count(4) - 1);
            x.pay(0);
            Check.no("OFF by " + letter, x.off(0, 0) == 1 == (OF_CONTRACT.indexOf(letter) >= 0));
            x.judge(0);
            Check.no("pay by " + letter, x.pay(0) == 1 == (OF_PAY.indexOf(letter) >= 0));
            x.off(0, 0);
            Check.no("judge by " + letter, x.judge(x.count(4) - 1) == -2 == (OF_RECIPE.indexOf(letter) >= 0));
            x.judge(0);
        }
        for (char other = 'a'; other <= 'z'; other++) {
            Check.is("letter " + other, Check.text(new RagTown(), 2, 0, "" + other), LETTERS.indexOf(other) < 0 ? -1 : 0);
        }
    }

    /** "r g b the sums of PARTS times red, green, blue by 12 (cut), s .. w .. v .., n .., m .." */
    private static void lettersOfABlend() {
        int[][] parts = {{12, 0, 0}, {11, 1, 0}, {1, 11, 0}, {0, 12, 0}, {10, 1, 1}, {4, 4, 4}, {0, 0, 12}, {0, 7, 5}};
        int[][] sorts = {{0, 11, 255, 1, 0, 11}, {1, 12, 255, 1, 1, 12}, {12, 255, 0, 99, 999, 1000}};
        for (int[] p : parts) {
            RagTown x = new RagTown();
            int[] sums = new int[6];
            for (int s = 0; s < 3; s++) {
                int[] v = sorts[s];
                x.sort(v[0], v[1], v[2], v[3], v[4], v[5], -1);
                x.part(s, p[s]);
                for (int i = 0; i < 6; i++) {
                    sums[i] += v[i] * p[s];
                }
            }
            int n = (p[0] > 0 ? 1 : 0) + (p[1] > 0 ? 1 : 0) + (p[2] > 0 ? 1 : 0);
            String text = "r=" + sums[0] / 12 + ";g=" + sums[1] / 12 + ";b=" + sums[2] / 12 + ";s=" + sums[3] / 12 + ";w="
                + sums[4] / 12 + ";v=" + sums[5] / 12 + ";n=" + n + ";m=" + Math.max(p[0], Math.max(p[1], p[2]));
            Check.is(text, Check.text(x, 1, 0, text), 0);
            Check.is("BLEND of " + p[0] + " " + p[1] + " " + p[2], x.judge(0), -2);
        }
    }

    /** "EXPRESSIONS with ; between: each has to be not 0" */
    private static void eachNotNone() {
        String[] texts = {"0", "1", "-1", "0;1", "1;0", "1;1;0", "2;-3;8192*8192*32", "1;8192*8192*64", "1;1;1;1;1;1;1;1;1;0"};
        int[] want = {0, -2, -2, 0, 1, 2, -2, 1, 9};
        for (int i = 0; i < texts.length; i++) {
            RagTown x = Town.withSorts(1);
            x.part(0, 12);
            Check.is("RECIPE " + texts[i], Check.text(x, 1, 0, texts[i]), 0);
            Check.is("judge " + texts[i], x.judge(0), want[i]);
            Check.is("mix " + texts[i], x.mix(0, 1, 0, 0), want[i] == -2 ? 0 : -2);
        }
    }

    private static void numbersOfPay() {
        Check.ends("SORTER", Town::busy, RagTown::pay, 0, 5, -1);
        RagTown x = new RagTown();
        Check.text(x, 2, 0, "-1");
        Check.is("a PAY of -1", x.pay(0), -1);
        Check.is("no such SORTER", x.pay(6), -1);
        Check.text(x, 2, 0, "8192*8192*32");
        Check.is("a PAY below 0", x.pay(5), LEAST);
    }

    /** "(at first 0)" */
    private static void payAtFirst() {
        RagTown x = Town.withSorts(1);
        x.bale(0, 0, 100, 0);
        x.open(0, 4, 0, 1, 60, 0);
        for (int sorter = 0; sorter < 6; sorter++) {
            Check.is("at first " + sorter, x.pay(sorter), 0);
        }
        Check.text(x, 2, 0, "(");
        Check.is("by no text", x.pay(4), 0);
        Check.text(x, 2, 0, "p");
        Check.is("by a text", x.pay(4), 60);
        Check.text(x, 2, 0, "z");
        Check.is("told again", x.pay(4), 40);
    }

    /** "p pounds, z pounds of DUST of the BALES that it SORTED, n how many these were, e its EYE (1000 without)" */
    private static void lettersOfThePay() {
        RagTown x = Town.withSorts(2);
        x.bale(0, 0, 9999, 0);
        x.bale(0, 0, 9999, 0);
        x.bale(0, 0, 9999, 0);
        x.open(0, 5, 2, 2, 4999, 0);
        x.open(1, 5, 2, 0, 0, 0);
        x.open(2, 0, 2, 1, 9999, 0);
        x.make(12);
        x.fire(500);
        x.moth(2);
        x.twice(5, 0, 4, 1);
        String[] letters = {"p", "z", "n", "e"};
        int[][] want = {{9999, 0, 1, 1000}, {0, 0, 0, 1000}, {0, 0, 0, 0}, {9998, 10000, 2, 0}};
        int[] sorters = {0, 3, 4, 5};
        for (int i = 0; i < 4; i++) {
            Check.text(x, 2, 0, letters[i]);
            for (int j = 0; j < 4; j++) {
                Check.is(letters[i] + " of " + sorters[j], x.pay(sorters[j]), want[j][i]);
            }
        }
        x.twice(5, 1, 3, 1);
        x.twice(5, 1, 3, 1);
        Check.is("e cut", x.pay(5), 666);
        Check.is("e of all alike", x.pay(3), 1000);
    }
}
