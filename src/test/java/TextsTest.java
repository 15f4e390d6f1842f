/** Promises 8 to 12: feed, text, force, plan, planned. */
public final class TextsTest {
    private static final String RULE = "gain 100;fade 4;drop sum;";

    public static void main(String[] args) {
        feed();
        textsThatAre();
        faults();
        openOnes();
        textIsFull();
        whatTextsSay();
        force();
        plans();
        planFaults();
        planIsFull();
        planned();
        Due.end();
    }

    private static void feed() {
        BellAndDrop x = Due.withSigns(0);
        Due.is("feed(0)", x.feed(0, 1), -2);
        Due.is("feed(9)", x.feed(9, 1), -2);
        Due.is("feed(-1)", x.feed(-1, 1), -2);
        for (int i = 1; i <= 20; i++) {
            Due.is("feed 8", x.feed(8, -1L), 8 * i);
        }
        Due.is("feed(1) behind 160", x.feed(1, 0), -4);
        Due.is("feed(9) behind 160: BAD comes first", x.feed(9, 0), -2);
        Due.is("count(4)", x.count(4), 160);
        Due.is("text of bytes 255", x.text(), -100);
        Due.is("count(4)", x.count(4), 0);
        for (int i = 1; i <= 19; i++) {
            x.feed(8, 0x2D2D2D2D2D2D2D2DL);
        }
        Due.is("feed(7)", x.feed(7, 0), 159);
        Due.is("feed(2) behind 159", x.feed(2, 0), -4);
        Due.is("feed(1) behind 159", x.feed(1, 0), 160);
        x.plan();
        // the lowest byte first, those above the n lowest are left
        Due.is("feed(2, a+ and more)", x.feed(2, 0x21212B61L), 2);
        Due.is("plan a+", x.plan(), 0);
        Due.is("its set", x.planned(0, 0, 0), 1);
        Due.is("its end", x.planned(0, 0, 1), 1);
        Due.is("its size", x.planned(0, -1, 0), 1);
    }

    private static void textsThatAre() {
        String[] texts = {
            RULE, " \n gain\n100 ; fade 4 ; drop sum ; \n ", "gain100;fade4;drop sum;",
            "gain strength+sum-worth*kind;fade day;drop trial;", "gain not 1 = 1;fade 1 and 0 or not not 2;drop 1<2;",
            "gain 0000;fade 9999;drop - - 1;", "gain (1 or 2);fade ((((0)))) ;drop -(1);",
            "gain 1or 0;fade 1and(1);drop not(1)<2;"};
        for (String text : texts) {
            BellAndDrop x = Due.withSigns(0);
            Due.is("text " + text, Due.text(x, text), 1);
            Due.is("count(3)", x.count(3), 2);
            Due.is("count(4)", x.count(4), 0);
        }
    }

    /** A ^ stands ahead of the byte that the fault is at. */
    private static void faults() {
        String[] texts = {
            "^", "   ^", "^fade 1;", "^gainx 1;", "gain ^;", "gain 1^", "gain 1 ^", "gain 1; ^drop 1;",
            "gain 1; fade 1; drop 1^", "gain 1; fade 1; drop 1; ^;", "gain 1; fade 1; drop 1;^1",
            "gain 1;fade 1;drop 1;^gain 1;", "gain 1;fade 1;drop 1;^/", "gain 1;fade 1;drop 1; ^x", "gain 1;fade 1;drop 1;\n^12345", "gain ^12345;", "gain 1 ^12345", "gain ^00001;", "gain 1^a;",
            "gain ^strengthsum;", "gain 1^ABC", "^Gain 1;", "gain 1 ^/ 2;", "gain ^\t1;", "gain ^\r1;", "gain 1 ^2;",
            "gain 1 < 2 ^< 3;", "gain 1 = 2 ^= 3;", "gain 1 < 2 ^= 3;", "gain not 1 < 2 ^< 3;", "gain 1 + ^not 2;",
            "gain 1 * ^not 2;", "gain 1 < ^not 2;", "gain - ^not 2;", "gain ^or 1;", "gain 1 or ^;", "gain 1 and ^and 1;",
            "gain 1 ^not;", "gain (^);", "gain (1^;", "gain 1^);", "gain (1 ^2);", "gain ^+1;", "gain 1 + ^+ 1;",
            "gain 1 + - 1^", "gain ^* 1;", "gain ^gain;", "gain 1 ^gain;", "gain 1 ^fade;", "gain 1;fade ^drop;",
            "gain ^\u00e9;", "gain 1^\u00e9", "gain 1^\0", "gain day^2;", "gain ^days;", "gain ^rum;", "gain 1 ^xr 2;", "^pain 1;", "gain 1 ^sum;",
            "gain 1 ^o", "gain (1 < 2) < 3 ^< 4;", "gain 1 < (2 < 3 ^< 4);", "gain not12 ^not;",
            "gain not^", "gain -^", "gain (^", "gain ^;fade 12345;"};
        for (String marked : texts) {
            int place = marked.indexOf('^');
            String text = marked.replace("^", "");
            BellAndDrop x = Due.withSigns(0);
            Due.is("fault in " + marked, Due.text(x, text), -100 - place);
            Due.is("count(3)", x.count(3), 1);
            Due.is("count(4)", x.count(4), 0);
        }
    }

    /** Five of ( , not and - may be open; where ^ stands there is one too many. */
    private static void openOnes() {
        String[] right = {
            "(((((1)))))", "not not not not not 1", "- - - - - 1", "not not ( - - 1)", "(((((1)))))+(((((2)))))",
            "- - - - - 1 - - - - - - 1", "not not not not not 1 and not 1", "not not not not not 1 < 2 - 3",
            "((((not 1 and not 2))))", "((((-1*-1--1))))", "-(-(-1))*-(-(-1))"};
        for (String e : right) {
            BellAndDrop x = Due.withSigns(0);
            Due.is("open in " + e, Due.text(x, "gain " + e + ";fade 1;drop 1;"), 1);
        }
        String[] wrong = {
            "(((((^(1))))))", "not not not not not ^not 1", "- - - - - ^- 1", "not not ( - - ^- 1)", "(((((1+^(2))))))",
            "not not not not not 1 < ^- 3", "(((((^not 1)))))", "((((-^(1)))))", "not not not not not ^(1)",
            "not ((((1 and ^not 2))))", "-(-(-^(1)))", "(((((^-1)))))", "not not not not - ^- 1"};
        for (String e : wrong) {
            String marked = "gain 1;fade " + e + ";drop 1;";
            BellAndDrop x = Due.withSigns(0);
            Due.is("open in " + marked, Due.text(x, marked.replace("^", "")), -100 - marked.indexOf('^'));
        }
    }

    private static void textIsFull() {
        BellAndDrop x = Due.withSigns(0);
        for (int i = 1; i < 6; i++) {
            Due.is("text " + i, Due.text(x, RULE), i);
        }
        Due.feed(x, "gain");
        Due.is("the seventh text", x.text(), -4);
        Due.is("count(3)", x.count(3), 6);
        Due.is("the tape stays", x.count(4), 4);
        Due.is("so it is not taken", x.force(6), -2);
        longTextsOneByOne();
        StringBuilder longest = new StringBuilder(RULE);
        while (longest.length() < 160) {
            longest.append(' ');
        }
        Due.is("a text of 160 bytes", Due.text(Due.withSigns(0), longest.toString()), 1);
        longest.setCharAt(24, ' ');
        Due.is("one that ends too early", Due.text(Due.withSigns(0), longest.toString()), -260);
    }

    /** What one text says has nothing to do with those that were read ahead of it. */
    private static void longTextsOneByOne() {
        BellAndDrop x = Due.withSigns(0);
        for (int i = 1; i < 6; i++) {
            Due.text(x, "gain 1" + "+1".repeat(60));
            Due.is("long text " + i, Due.text(x, "gain 1" + "+1".repeat(50) + ";fade " + i + ";drop 1" + i + "0;"), i);
        }
        for (int i = 1; i < 6; i++) {
            x.force(i);
            Due.is("fades by text " + i, x.told(0, 4), i);
            Due.is("drops by text " + i, x.sum(1, 1), 10 + i);
        }
    }

    /** What an E says, looked at through DROPS of a sign: tens of it. */
    private static void says(String e, long want) {
        BellAndDrop x = Due.withRule("gain 100;fade 0;drop (" + e + ")*10;", 2, 0);
        Due.plan(x, "-");
        x.days(0, 3);
        x.trial(1, 1);
        x.trial(2, 1);
        // strength of a 60, of b 60
        Due.is("what says " + e, x.sum(3, 1), want);
    }

    private static void whatTextsSay() {
        says("7", 7);
        says("strength", 60);
        says("sum - 100", 20);
        says("worth + 1", 1);
        says("kind", 2);
        says("day", 3);
        says("trial + 1", 1);
        says("1 + 2 * 3", 7);
        says("(1 + 2) * 3", 9);
        says("9 - 2 - 3", 4);
        says("9 - (2 - 3)", 10);
        says("2 * - 3 + 10", 4);
        says("- - 5", 5);
        says("5 or 0", 1);
        says("0 or 0", 0);
        says("5 and 6", 1);
        says("1 and 6", 1);
        says("6 and 1", 1);
        says("0 and 6", 0);
        says("1 or 6", 1);
        says("0 or 6", 1);
        says("5 and 0", 0);
        says("not 5", 0);
        says("not 0", 1);
        says("not not 5", 1);
        says("not 1 = 2", 1);
        says("(not 1) = 0", 1);
        says("1 < 2", 1);
        says("2 < 2", 0);
        says("- 1 < 0", 1);
        says("2 = 2", 1);
        says("1 or 0 and 0", 1);
        says("(1 or 0) and 0", 0);
        says("not 0 and 0", 0);
        says("1 + 1 < 1 + 2", 1);
        says("(3) + (day = 3) * 4", 7);
        // 999700029999 wraps to -1027349969
        says("9999 * 9999 * 9999 < 0", 1);
        says("9999 * 9999 * 9999 = 9999 * 9999 * 9999", 1);
        BellAndDrop x = Due.withRule("gain 9999*9999*9999*8;fade -9999*9999;drop -1;", 0);
        Due.is("drops below 0", x.sum(1, 1), 0);
        Due.is("fades below 0", x.told(0, 4), 0);
    }

    private static void force() {
        BellAndDrop x = Due.withSigns(0);
        Due.text(x, "gain 50;fade 7;drop 55;");
        Due.is("force(2)", x.force(2), -2);
        Due.is("force(-1)", x.force(-1), -2);
        Due.is("force(1)", x.force(1), 0);
        Due.is("count(5)", x.count(5), 1);
        Due.is("fades", x.told(0, 4), 7);
        Due.is("drops", x.sum(1, 1), 5);
        x.trial(1, 1);
        Due.is("strength", x.told(0, 1), 30);
        Due.is("force(0)", x.force(0), 1);
        Due.is("fades", x.told(0, 4), 4);
    }

    private static void plans() {
        BellAndDrop x = Due.withSigns(0, 0, 0);
        Due.is("plan", Due.plan(x, "cab+-b!ac?"), 0);
        Due.is("count(2)", x.count(2), 1);
        Due.is("count(4)", x.count(4), 0);
        long[] sets = new long[4];
        long[] ends = new long[4];
        for (int i = 0; i < 4; i++) {
            sets[i] = x.planned(0, i, 0);
            ends[i] = x.planned(0, i, 1);
        }
        Due.are("sets", sets, 7, 0, 2, 5);
        Due.are("ends", ends, 1, 0, 2, 3);
        Due.is("24 trials", Due.plan(x, "a+".repeat(24)), 1);
        Due.is("their number", x.planned(1, -1, 77), 24);
        Due.is("the last", x.planned(1, 23, 0), 1);
    }

    private static void planFaults() {
        String[] plans = {
            "^", "a^", "a+b^", "a+^d+", "a+^h", "^A+", "a+^ b+", "a^a+", "ab^a+", "a+a+b^b", "^1", "a+b-^\n", "^*",
            "a+".repeat(24) + "^a+", "a+".repeat(24) + "^-", "-".repeat(24) + "^d", "-".repeat(24) + "^c", "abc^",
            "^\u00e1+", "^\0", "a+^`", "a^;"};
        for (String marked : plans) {
            BellAndDrop x = Due.withSigns(0, 0, 0);
            Due.is("fault in " + marked, Due.plan(x, marked.replace("^", "")), -100 - marked.indexOf('^'));
            Due.is("count(2)", x.count(2), 0);
            Due.is("count(4)", x.count(4), 0);
        }
        BellAndDrop none = new BellAndDrop();
        Due.is("a letter without signs", Due.plan(none, "a+"), -100);
        Due.is("no letters without signs", Due.plan(none, "+-"), 0);
        BellAndDrop x = Due.withSigns(0);
        Due.is("b is no sign yet", Due.plan(x, "ab+"), -101);
        x.sign(0);
        Due.is("b is a sign now", Due.plan(x, "ab+"), 0);
        Due.is("all eight", Due.plan(Due.withSigns(0, 0, 0, 0, 0, 0, 0, 0), "hgfedcba?"), 0);
    }

    private static void planIsFull() {
        BellAndDrop x = Due.withSigns(0);
        for (int i = 0; i < 8; i++) {
            Due.is("plan " + i, Due.plan(x, "a+"), i);
        }
        Due.feed(x, "zz");
        Due.is("the ninth plan", x.plan(), -4);
        Due.is("count(2)", x.count(2), 8);
        Due.is("the tape stays", x.count(4), 2);
        Due.is("and is a text's then", x.text(), -100);
        Due.is("count(4)", x.count(4), 0);
    }

    private static void planned() {
        BellAndDrop x = Due.withSigns(0);
        Due.plan(x, "a+-");
        Due.is("planned(0, -1, 9)", x.planned(0, -1, 9), 2);
        Due.is("planned(0, -2, 0)", x.planned(0, -2, 0), -1);
        Due.is("planned(0, 2, 0)", x.planned(0, 2, 0), -1);
        Due.is("planned(0, 0, 2)", x.planned(0, 0, 2), -1);
        Due.is("planned(0, 0, -1)", x.planned(0, 0, -1), -1);
        Due.is("planned(1, -1, 0)", x.planned(1, -1, 0), -1);
        Due.is("planned(-1, -1, 0)", x.planned(-1, -1, 0), -1);
        Due.is("planned(0, 1, 0)", x.planned(0, 1, 0), 0);
        Due.is("planned(0, 1, 1)", x.planned(0, 1, 1), 0);
    }
}
