/** Promises 13 to 16: sign, end, text, pay. */
final class TextsTest {
    public static void main(String[] args) {
        theTape();
        kinds();
        places();
        longTexts();
        values();
        binding();
        bindingInAllKinds();
        recipes();
        pays();
        Check.finish();
    }

    private static void theTape() {
        RagTown x = new RagTown();
        Check.no("end 1 of none", x.end(1));
        Check.no("end -1", x.end(-1));
        Check.yes("end 0 of none", x.end(0));
        for (int n = 4; n <= 100; n += 4) {
            Check.is("sign " + n, x.sign(0x31323334), n);
        }
        Check.is("sign 104", x.sign(0x31323334), -1);
        Check.is("100 signs", x.count(10), 100);
        Check.no("end 101", x.end(101));
        Check.yes("end 100", x.end(100));
        Check.yes("end 97", x.end(97));
        Check.is("sign 101", x.sign(0), -1);
        Check.is("97 signs", x.count(10), 97);
        Check.yes("end 3", x.end(3));
        Check.is("behind 3", x.sign(0x2b323030), 7);
        Check.is("123+200", x.text(2, 0), 0);
        Check.is("read highest byte first", x.pay(0), 323);
        x.sign(0x80313131);
        Check.is("signs above 127", x.text(2, 0), -1);
        x.sign(0x31b0e131);
        Check.is("signs above 127 behind", x.text(2, 0), -2);
        x.sign(0);
        Check.is("sign 0", x.text(2, 0), -1);
    }

    private static void kinds() {
        RagTown x = new RagTown();
        Check.is("what -1", Check.text(x, -1, 0, "1"), -100);
        Check.is("emptied", x.count(10), 0);
        Check.is("what 3", Check.text(x, 3, 0, "1"), -100);
        Check.is("SELLER 4", Check.text(x, 0, 4, "1"), -100);
        Check.is("SELLER -1, no text either", Check.text(x, 0, -1, ")"), -100);
        for (int k = 0; k < 4; k++) {
            Check.is("CONTRACT " + k, Check.text(x, 0, k, "1"), 0);
            Check.is("emptied by " + k, x.count(10), 0);
        }
        Check.is("a wrong one", Check.text(x, 0, 0, "1)"), -2);
        Check.is("emptied by a wrong one", x.count(10), 0);
        for (int k = 0; k < 6; k++) {
            Check.is("no RECIPE", Check.text(x, 1, k - 9, ";"), -1);
            Check.is("RECIPE " + k, Check.text(x, 1, k - 9, "1"), k);
        }
        Check.is("6 RECIPES", x.count(4), 6);
        Check.is("a seventh", Check.text(x, 1, 0, "1"), -100);
        Check.is("a seventh that is none", Check.text(x, 1, 0, ")"), -100);
        Check.is("emptied at last", x.count(10), 0);
    }

    /** Texts that are none, with the place of the first sign that can't stand there. */
    private static void places() {
        RagTown x = new RagTown();
        String[] texts = {"", "+", "1+", "1++2", "1 +2", " 1", "(", "()", "(1", "(1))", "1)", "12345", "1(2)", "(1)2",
            "pz", "1p", "p1", "a", "c", "t", "y", "P", "1<2<3", "1<2>3", "1=2=3", "1<2+3=4", "(1<2<3)", "(1<2)<(3<4)<5",
            "!", "1!", "1!=2", "-", "1<", "1<<2", "1&&2", "1||2", "1&", "1;2", "1;", "1..2", "0x1", "((((1)))", "*1", "%",
            "1&2<3<4", "1<2&3<4|5>6>7", "(1)(2)", "-;", "1@", "1\n"};
        int[] want = {0, 0, 2, 2, 1, 0, 1, 1, 2, 3, 1, 4, 1, 3,
            1, 1, 1, 0, 0, 0, 0, 0, 3, 3, 3, 5, 4, 11,
            1, 1, 1, 1, 2, 2, 2, 2, 2, 1, 1, 1, 1, 8, 0, 0,
            5, 11, 3, 1, 1, 1};
        Check.is("as many", texts.length, want.length);
        for (int i = 0; i < texts.length && i < want.length; i++) {
            Check.is("PAY " + texts[i], Check.text(x, 2, 0, texts[i]), -1 - want[i]);
        }
        String[] parted = {"", ";", "1;", "1;;2", "(1;2)", "1;2;", "1;2<3<4", "1<2;3<4=5", "1+;2", "!;1"};
        int[] there = {0, 0, 2, 2, 2, 4, 5, 7, 2, 1};
        for (int i = 0; i < parted.length; i++) {
            Check.is("RECIPE " + parted[i], Check.text(x, 1, 0, parted[i]), -1 - there[i]);
        }
        Check.is("none was kept", x.count(4), 0);
        Check.is("PAY is still none", x.pay(0), 0);
    }

    private static void longTexts() {
        RagTown x = new RagTown();
        String sixty = "1+".repeat(29) + "11";
        Check.is("60 signs", Check.text(x, 2, 0, sixty), 0);
        Check.is("their value", x.pay(0), 40);
        Check.is("61 signs", Check.text(x, 2, 0, sixty + "1"), -61);
        Check.is("61 signs, the last no sign", Check.text(x, 2, 0, sixty + "?"), -61);
        Check.is("60 that could go on", Check.text(x, 2, 0, "1+".repeat(30) + "1"), -61);
        Check.is("60 that end too early", Check.text(x, 2, 0, "1+".repeat(30)), -61);
        Check.is("100 signs", Check.text(x, 2, 0, "1+".repeat(50)), -61);
        Check.is("wrong ahead", Check.text(x, 2, 0, "1+".repeat(20) + "+" + "1+".repeat(20)), -41);
        Check.is("wrong at 59", Check.text(x, 2, 0, "1+".repeat(29) + "1)" + "1"), -60);
        Check.is("60 open", Check.text(x, 2, 0, "(".repeat(60)), -61);
        Check.is("99 open", Check.text(x, 2, 0, "(".repeat(99)), -61);
        Check.is("29 deep", Check.text(x, 2, 0, "(".repeat(29) + "7" + ")".repeat(29)), 0);
        Check.is("their value", x.pay(0), 7);
        Check.is("59 times !", Check.text(x, 2, 0, "!".repeat(59) + "0"), 0);
        Check.is("their value", x.pay(0), 1);
        Check.is("59 times -", Check.text(x, 2, 0, "-".repeat(59) + "5"), 0);
        Check.is("their value", x.pay(0), -5);
        Check.is("a RECIPE whose every sign gives a code", Check.text(x, 1, 0, "-" + "1;".repeat(29) + "1"), 0);
        x.sort(0, 0, 0, 1, 0, 0, -1);
        x.part(0, 12);
        Check.is("it holds", x.judge(0), -2);
    }

    private static int value(String text) {
        RagTown x = new RagTown();
        Check.is("text " + text, Check.text(x, 2, 0, text), 0);
        return x.pay(0);
    }

    private static void values() {
        String[] texts = {"0", "0009", "9999", "1+2*3", "(1+2)*3", "10-3-2", "100/7/2", "100%7*2", "7/2*2", "2*7/2",
            "7/0", "7%0", "7/(0-2)", "(0-7)/2", "(0-7)%2", "-7/2", "-7%2", "--7", "!0", "!5", "!!5", "-!0", "!-1", "!1=0",
            "-2*3", "2*-3", "2--3", "1<2", "2<1", "2<2", "2>1", "1>2", "2=2", "2=1", "1+1<3", "3<1+1", "(1<2)<2",
            "1|0", "0|0", "5|6", "5&6", "5&0", "0&0", "0|0&1", "1&0|1", "0&1|1", "1<2&2<3", "1<2|3<2", "0=1|1",
            "9999*9999*9999", "-(9999*9999)*22", "1-2*3-4", "2+3=5&1", "e", "p+z+n", "l+d+k+o+q+r+g+b+s+w+v+m"};
        long[] want = {0, 9, 9999, 7, 9, 5, 7, 4, 6, 7,
            0, 0, -3, -3, -1, -3, -1, 7, 1, 0, 1, -1, 0, 1,
            -6, -6, 5, 1, 0, 0, 1, 0, 1, 0, 1, 0, 1,
            1, 0, 1, 1, 0, 0, 0, 1, 1, 1, 1, 1,
            (int) 999700029999L, 9999 * 9999 * -22, -9, 1, 1000, 0, 0};
        Check.is("as many", texts.length, want.length);
        for (int i = 0; i < texts.length && i < want.length; i++) {
            Check.is("value of " + texts[i], value(texts[i]), want[i]);
        }
        Check.is("least int by -1", value("(1-8192*8192*32-1)/-1"), Integer.MIN_VALUE);
    }

    /** Each operator between two things binds less than those of the levels behind its own, on both sides of it. */
    private static void binding() {
        String[] texts = {"1|1&0", "0&1|1", "0&0|1", "1|0&0", "(1|1)&0", "1&(0|1)", "1|0&0|0", "1|1&0|0", "0&1|1&1",
            "0|1&1&0", "1&1|1&0", "0&1&1|0", "1|1&1=0", "1|0=0&0", "2&1<2", "3>2&1", "0=0&0", "0|2=2", "1=0|1",
            "!0|1&0", "!1|1&1", "1|-1&0", "0&0=0", "1|2-2&1", "1<2|3<4&5<4", "1&0+1", "0|3-3", "2*0&1|1", "1|5%5&1"};
        int[] want = {1, 1, 1, 1, 0, 1, 1, 1, 1,
            0, 1, 0, 1, 1, 1, 1, 0, 1, 1,
            1, 1, 1, 0, 1, 1, 1, 0, 1, 1};
        Check.is("as many", texts.length, want.length);
        for (int i = 0; i < texts.length && i < want.length; i++) {
            Check.is("value of " + texts[i], value(texts[i]), want[i]);
        }
        Check.is("no < behind another in one of a row of |", Check.text(new RagTown(), 2, 0, "1|1<2<3"), -6);
        Check.is("no < behind another in one of a row of &", Check.text(new RagTown(), 2, 0, "1|1<2&3=4>5"), -10);
        Check.is("one < in each", Check.text(new RagTown(), 2, 0, "1<2|3>4&5=6|7<8"), 0);
    }

    private static void bindingInAllKinds() {
        RagTown x = new RagTown();
        x.sort(200, 10, 0, 9, 0, 0, -1);
        x.sort(10, 200, 0, 50, 0, 0, -1);
        x.bale(1, 5, 100, 10);
        x.look(0, 0, 1, 90, 100);
        Check.text(x, 0, 1, "q|d&k");
        Check.is("a CONTRACT", x.off(0, 0), 1);
        Check.text(x, 0, 1, "(q|d)&k");
        Check.is("a CONTRACT with ( )", x.off(0, 0), 0);
        Check.text(x, 1, 0, "n=1|m<6&s>40");
        Check.text(x, 1, 0, "1;(n=1|m<6)&s>40");
        x.part(0, 12);
        Check.is("a RECIPE", x.judge(0), -2);
        Check.is("a RECIPE with ( )", x.judge(1), 1);
        Check.is("what a RECIPE lets be", x.mix(0, 1, 0, 0), 0);
        Check.is("what a RECIPE with ( ) doesn't", x.mix(1, 1, 0, 0), -2);
        Check.text(x, 2, 0, "e|e&n");
        Check.is("a PAY", x.pay(0), 1);
        Check.text(x, 2, 0, "(e|e)&n");
        Check.is("a PAY with ( )", x.pay(0), 0);
    }

    private static void recipes() {
        RagTown x = new RagTown();
        x.sort(255, 100, 7, 99, 300, 1000, -1);
        x.sort(10, 100, 9, 10, 0, 5, -1);
        x.sort(1, 1, 1, 1, 0, 0, -1);
        x.part(0, 5);
        x.part(1, 7);
        String whole = "r=" + (255 * 5 + 70) / 12 + ";g=100;b=" + (35 + 63) / 12 + ";s=" + (495 + 70) / 12
            + ";w=125;v=" + (5000 + 35) / 12 + ";n=2;m=7";
        Check.is("all letters", Check.text(x, 1, 0, whole), 0);
        Check.is("they hold", x.judge(0), -2);
        Check.is("letters of other kinds", Check.text(x, 1, 0, "1;l+d+k+o+q+p+z+e=0;n;0-1;0;1"), 1);
        Check.is("the first that is 0", x.judge(1), 4);
    }

    private static void pays() {
        RagTown x = new RagTown();
        x.sort(1, 1, 1, 1, 0, 0, -1);
        x.sort(1, 1, 1, 1, 0, 0, -1);
        Check.is("pay at first", x.pay(5), 0);
        Check.is("pay -1", x.pay(-1), -1);
        Check.is("pay 6", x.pay(6), -1);
        for (int i = 0; i < 3; i++) {
            x.bale(0, 0, 100 + i, 1);
            x.open(i, i == 2 ? 1 : 0, 0, 2, 10 + i, 1);
        }
        x.bale(0, 0, 50, 1);
        x.fire(1000);
        x.twice(0, 0, 1, 0);
        x.twice(0, 0, 2, 1);
        x.twice(0, 1, 2, 0);
        String[] letters = {"p", "z", "n", "e", "l+d+k+o+q+r+g+b+s+w+v+m"};
        int[][] want = {{44, 157, 2, 333, 0}, {25, 77, 1, 1000, 0}, {0, 0, 0, 0, 0}, {0, 0, 0, 1000, 0}};
        for (int i = 0; i < letters.length; i++) {
            Check.text(x, 2, 0, letters[i]);
            for (int sorter = 0; sorter < 4; sorter++) {
                Check.is("pay " + letters[i] + " of " + sorter, x.pay(sorter), want[sorter][i]);
            }
        }
        Check.is("none", Check.text(x, 2, 0, "p+"), -3);
        Check.is("the PAY stays", x.pay(0), 0);
    }
}
