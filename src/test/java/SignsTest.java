/** Promises 1 to 7: a new object, sign, told, worth, goes, like, pace. */
public final class SignsTest {
    private static final long NO = BellAndDrop.NO;
    private static final int FAR = Integer.MAX_VALUE, LOW = Integer.MIN_VALUE;

    public static void main(String[] args) {
        newObject();
        sign();
        told();
        loudAndFades();
        worth();
        goes();
        like();
        pace();
        Due.end();
    }

    private static void newObject() {
        BellAndDrop x = new BellAndDrop();
        long[] counts = new long[9];
        for (int i = 0; i < 9; i++) {
            counts[i] = x.count(i);
        }
        Due.are("counts of a new object", counts, 0, 0, 0, 1, 0, 0, 0, 0, 30);
        Due.is("told of a sign that is not", x.told(0, 0), NO);
        Due.is("planned of a plan that is not", x.planned(0, -1, 0), -1);
        Due.is("back without an image", x.back(), -3);
    }

    private static void sign() {
        BellAndDrop x = new BellAndDrop();
        Due.is("sign(-1)", x.sign(-1), -2);
        Due.is("sign(6)", x.sign(6), -2);
        for (int i = 0; i < 8; i++) {
            Due.is("sign " + i, x.sign(i % 6), i);
        }
        Due.is("sign(0), the ninth", x.sign(0), -4);
        Due.is("sign(6), the ninth: BAD comes first", x.sign(6), -2);
        Due.is("count(0)", x.count(0), 8);
        Due.is("told(7, 0)", x.told(7, 0), 1);
    }

    private static void told() {
        BellAndDrop x = Due.withSigns(3);
        x.trial(1, 1);
        Due.is("kind", x.told(0, 0), 3);
        // 1000 * 15 / 100 * 30 / 100
        Due.is("strength", x.told(0, 1), 45);
        Due.is("on", x.told(0, 2), 1);
        Due.is("loud", x.told(0, 3), 15);
        Due.is("fades", x.told(0, 4), 3);
        Due.is("told(0, 5)", x.told(0, 5), NO);
        Due.is("told(0, -1)", x.told(0, -1), NO);
        Due.is("told(1, 0)", x.told(1, 0), NO);
        Due.is("told(-1, 0)", x.told(-1, 0), NO);
        Due.is("told(FAR, 0)", x.told(FAR, 0), NO);
        Due.is("told(LOW, 0)", x.told(LOW, 0), NO);
    }

    private static void loudAndFades() {
        int[] loud = {20, 30, 20, 15, 30, 5};
        int[][] fades = {
            {0, 0, 2, 1, 0, 0}, {4, 2, 6, 3, 2, 0}, {7, 3, 9, 4, 3, 0}, {99, 49, 100, 50, 49, 0},
            {100, 50, 100, 51, 50, 0}, {100, 50, 100, 51, 50, 0}, {0, 0, 2, 1, 0, 0}};
        String[] rules = {"0", "4", "7", "99", "100", "9999", "-1"};
        for (int r = 0; r < rules.length; r++) {
            BellAndDrop x = Due.withRule("gain 100;fade " + rules[r] + ";drop sum;", 0, 1, 2, 3, 4, 5);
            for (int kind = 0; kind < 6; kind++) {
                Due.is("loud of kind " + kind, x.told(kind, 3), loud[kind]);
                Due.is("fades of kind " + kind + " by " + rules[r], x.told(kind, 4), fades[r][kind]);
            }
        }
        staleGrowsDull();
        fadesByNames();
    }

    private static void staleGrowsDull() {
        BellAndDrop x = Due.withSigns(4);
        for (int i = 0; i < 3; i++) {
            x.trial(1, 0);
        }
        Due.is("loud of a stale one, on 3 times", x.told(0, 3), 30);
        x.trial(1, 0);
        Due.is("loud of a stale one, on 4 times", x.told(0, 3), 29);
        for (int i = 4; i < 119; i++) {
            x.trial(1, 0);
        }
        Due.is("loud of a stale one, on 119 times", x.told(0, 3), 1);
        for (int i = 119; i < 130; i++) {
            x.trial(1, 0);
        }
        Due.is("loud of a stale one, on 130 times", x.told(0, 3), 1);
        Due.is("on", x.told(0, 2), 130);
    }

    /** Of a KIND below SIGN the rule is asked by its own KIND; sum, worth and trial are 0. */
    private static void fadesByNames() {
        BellAndDrop x = Due.withRule("gain 100;fade kind*10+day+sum*7+worth*7+trial*7;drop 0;", 0, 1, 2, 3, 4, 5);
        Due.plan(x, "-");
        x.days(0, 4);
        x.trial(63, 1);
        long[] got = new long[6];
        for (int i = 0; i < 6; i++) {
            got[i] = x.told(i, 4);
        }
        Due.are("fades by kind and day", got, 4, 7, 26, 18, 22, 0);
        BellAndDrop y = Due.withRule("gain 100;fade strength;drop 0;", 0, 1);
        y.trial(1, 1);
        Due.is("fades by strength", y.told(0, 4), 60);
        Due.is("fades by another's strength", y.told(1, 4), 0);
    }

    private static void worth() {
        BellAndDrop x = Due.withSigns(0);
        Due.is("worth(1)", x.worth(1, 2000), 1000);
        Due.is("worth(2)", x.worth(2, -2000), -800);
        Due.is("worth(3)", x.worth(3, 0), -600);
        Due.is("worth(1, 2001)", x.worth(1, 2001), -9999);
        Due.is("worth(1, -2001)", x.worth(1, -2001), -9999);
        Due.is("worth(0, 0)", x.worth(0, 0), -9999);
        Due.is("worth(4, 0)", x.worth(4, 0), -9999);
        Due.is("worth(-1, 0)", x.worth(-1, 0), -9999);
        Due.is("worth(1) again", x.worth(1, 5), 2000);
        Due.is("worth(2) again", x.worth(2, 5), -2000);
        Due.is("surprise by a worth", x.trial(0, 1), 5);
        Due.is("surprise by none", x.trial(0, 0), 0);
    }

    private static void goes() {
        BellAndDrop x = Due.withSigns(1, 3);
        for (int kind = 0; kind < 6; kind++) {
            for (int end = 0; end < 4; end++) {
                Due.is("goes at first", x.goes(kind, end, 10 * kind + end), 100);
            }
        }
        for (int kind = 0; kind < 6; kind++) {
            for (int end = 0; end < 4; end++) {
                Due.is("goes later", x.goes(kind, end, 100), 10 * kind + end);
            }
        }
        Due.is("goes(-1, 0, 0)", x.goes(-1, 0, 0), -2);
        Due.is("goes(6, 0, 0)", x.goes(6, 0, 0), -2);
        Due.is("goes(0, -1, 0)", x.goes(0, -1, 0), -2);
        Due.is("goes(0, 4, 0)", x.goes(0, 4, 0), -2);
        Due.is("goes(0, 0, -1)", x.goes(0, 0, -1), -2);
        Due.is("goes(0, 0, 101)", x.goes(0, 0, 101), -2);
        Due.is("goes(0, 0, 100)", x.goes(0, 0, 100), 100);
        // a KIND's own GOES, not that of the one it stands under
        x.goes(1, 1, 0);
        x.trial(3, 1);
        Due.is("strength of GOOD", x.told(0, 1), 0);
        Due.is("strength of SLOW", x.told(1, 1), 45);
    }

    private static void like() {
        BellAndDrop x = Due.withSigns(0, 0, 0);
        Due.is("like(0, 1, 100)", x.like(0, 1, 100), 0);
        Due.is("like(1, 0, 30): it is the same", x.like(1, 0, 30), 100);
        Due.is("like(0, 2, 7)", x.like(0, 2, 7), 0);
        Due.is("like(0, 1, 0)", x.like(0, 1, 0), 30);
        Due.is("like(0, 0, 5)", x.like(0, 0, 5), -2);
        Due.is("like(0, 3, 5)", x.like(0, 3, 5), -2);
        Due.is("like(-1, 0, 5)", x.like(-1, 0, 5), -2);
        Due.is("like(0, 1, 101)", x.like(0, 1, 101), -2);
        Due.is("like(0, 1, -1)", x.like(0, 1, -1), -2);
        Due.is("like(0, 1, 0) again", x.like(0, 1, 0), 0);
    }

    private static void pace() {
        BellAndDrop x = Due.withSigns(0);
        Due.is("pace(100)", x.pace(100), 30);
        Due.is("pace(1)", x.pace(1), 100);
        Due.is("pace(0)", x.pace(0), -2);
        Due.is("pace(101)", x.pace(101), -2);
        Due.is("pace(LOW)", x.pace(LOW), -2);
        Due.is("count(8)", x.count(8), 1);
        x.pace(100);
        x.trial(1, 1);
        Due.is("strength by pace 100", x.told(0, 1), 200);
    }
}
