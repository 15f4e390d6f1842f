/** Tells of answers that are not the ones that are due, and ends a test. */
final class Due {
    private static int asked = 0;
    private static int wrong = 0;

    static final long NO = BellAndDrop.NO;

    static void is(String what, long got, long want) {
        asked++;
        if (got != want) {
            wrong++;
            System.out.println(what + " answered " + got + ", due is " + want);
        }
    }

    /** Answers in their order, so that a row of calls of one sort stands in one line. */
    static void are(String what, long[] got, long... want) {
        is(what + " (how many)", got.length, want.length);
        for (int i = 0; i < Math.min(got.length, want.length); i++) {
            is(what + " (" + i + ")", got[i], want[i]);
        }
    }

    static void end() {
        System.out.println(asked + " answers, " + wrong + " not as due");
        if (wrong != 0 || asked == 0) {
            System.exit(1);
        }
    }

    /** Feeds a text; its letters are bytes. */
    static void feed(BellAndDrop x, String letters) {
        for (int from = 0; from < letters.length(); from += 8) {
            int n = Math.min(8, letters.length() - from);
            long bytes = 0;
            for (int i = n - 1; i >= 0; i--) {
                bytes = bytes << 8 | letters.charAt(from + i);
            }
            x.feed(n, bytes);
        }
    }

    static int text(BellAndDrop x, String letters) {
        feed(x, letters);
        return x.text();
    }

    static int plan(BellAndDrop x, String letters) {
        feed(x, letters);
        return x.plan();
    }

    /** A new object with SIGNS of these KINDS. */
    static BellAndDrop withSigns(int... kinds) {
        BellAndDrop x = new BellAndDrop();
        for (int kind : kinds) {
            x.sign(kind);
        }
        return x;
    }

    /** A new object with SIGNS of these KINDS and a rule in force. */
    static BellAndDrop withRule(String rule, int... kinds) {
        BellAndDrop x = withSigns(kinds);
        is("rule " + rule, text(x, rule), 1);
        x.force(1);
        return x;
    }
}
