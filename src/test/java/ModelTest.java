import java.util.Random;

/** Random runs, the same each time, in which the class and the model must answer alike. */
public final class ModelTest {
    private static final int RUNS = 1500, CALLS = 512;

    private final Random random;
    private final BellAndDrop real = new BellAndDrop();
    private final Model model = new Model();
    /** How many arguments are wrong, by three in a thousand. */
    private final int wrongness;

    private ModelTest(long seed) {
        random = new Random(seed);
        wrongness = random.nextInt(4) == 0 ? 25 : 4;
    }

    public static void main(String[] args) {
        long[] right = new long[31];
        long[] asked = new long[31];
        for (int run = 0; run < RUNS; run++) {
            ModelTest t = new ModelTest(run);
            for (int call = 0; call < CALLS; call++) {
                int which = t.which(call);
                long got = t.call(which, run, call);
                asked[which]++;
                right[which] += got >= 0 || which == 12 && got != Due.NO ? 1 : 0;
            }
        }
        // a kind of call that hardly ever is answered would be tested by nothing
        for (int which = 1; which < 31; which++) {
            Due.is("call " + which + " was answered " + right[which] + " times of " + asked[which] + ": enough",
                right[which] > 300 ? 1 : 0, 1);
        }
        Due.end();
    }

    /** A run begins with signs, plans and texts, so that the rest has something to go by. */
    private int which(int call) {
        if (call < 40 && random.nextInt(3) > 0) {
            return new int[] {1, 7, 8, 10, 26, 5}[random.nextInt(6)];
        }
        int which = 1 + random.nextInt(30);
        return which == 14 && random.nextInt(3) > 0 ? 12 : which;
    }

    private int in(int least, int greatest) {
        if (random.nextInt(1000) >= wrongness * 3) {
            return least > greatest ? least : least + random.nextInt(greatest - least + 1);
        }
        switch (random.nextInt(6)) {
            case 0: return least - 1;
            case 1: return greatest + 1;
            case 2: return Integer.MIN_VALUE;
            case 3: return Integer.MAX_VALUE;
            case 4: return -random.nextInt(300);
            default: return random.nextInt(300);
        }
    }

    private int aSign() {
        return in(0, model.count(0) - 1);
    }

    private int aSet() {
        return in(0, (1 << model.count(0)) - 1);
    }

    private int aPlan() {
        return in(0, model.count(2) - 1);
    }

    private void feedBoth(String letters) {
        for (int i = 0; i < letters.length(); i += 8) {
            int n = Math.min(8, letters.length() - i);
            long bytes = random.nextLong();
            for (int k = n - 1; k >= 0; k--) {
                long mask = 255L << 8 * k;
                bytes = bytes & ~mask | (long) letters.charAt(i + k) << 8 * k;
            }
            same("feed", real.feed(n, bytes), model.feed(n, bytes));
        }
    }

    private void same(String call, long got, long want) {
        Due.is(call, got, want);
    }

    private String spoilt(String letters) {
        if (random.nextInt(3) > 0 || letters.isEmpty()) {
            return letters;
        }
        StringBuilder b = new StringBuilder(letters);
        int at = random.nextInt(b.length());
        String some = "();+-*<= \n0159agnot!?\t\u00ff/,AZ`{";
        switch (random.nextInt(4)) {
            case 0: b.deleteCharAt(at); break;
            case 1: b.insert(at, some.charAt(random.nextInt(some.length()))); break;
            case 2: b.setCharAt(at, some.charAt(random.nextInt(some.length()))); break;
            default: b.setLength(at); break;
        }
        return b.toString();
    }

    private String aPlanText() {
        StringBuilder b = new StringBuilder();
        int trials = random.nextInt(12) == 0 ? 22 + random.nextInt(4) : 1 + random.nextInt(5);
        for (int i = 0; i < trials; i++) {
            int set = random.nextInt(1 << model.count(0)) & random.nextInt(256);
            for (int s = 0; s < 8; s++) {
                if ((set & 1 << s) != 0) {
                    b.append((char) ('a' + s));
                }
            }
            b.append("+++-!?".charAt(random.nextInt(6)));
        }
        return spoilt(b.toString());
    }

    private String aRuleText() {
        StringBuilder b = new StringBuilder();
        String[] plain = {"gain " + (50 + random.nextInt(200)), "fade " + random.nextInt(12), "drop sum"};
        for (int i = 0; i < 3; i++) {
            b.append(random.nextInt(3) == 0 ? plain[i] : plain[i].substring(0, 5) + anE(0, 2 + random.nextInt(4)) + scale(i));
            b.append(random.nextBoolean() ? ";" : " ;\n");
        }
        return spoilt(b.toString());
    }

    /** So that what is said is not always beyond the bounds. */
    private String scale(int part) {
        if (random.nextBoolean()) {
            return "";
        }
        return new String[] {" + 100", " = 0", " + sum"}[part];
    }

    private String anE(int level, int size) {
        String[] names = {"strength", "sum", "worth", "kind", "day", "trial"};
        if (size <= 0 || random.nextInt(5) == 0) {
            return random.nextBoolean() ? names[random.nextInt(6)] : "" + random.nextInt(new int[] {3, 12, 150, 12000}[random.nextInt(4)]);
        }
        switch (random.nextInt(9)) {
            case 0: return "(" + anE(level + 1, size - 1) + ")";
            case 1: return "-" + anE(level + 1, size - 2);
            case 2: return "not " + anE(level + 1, size - 1);
            case 3: return anE(level, size / 2) + " or " + anE(level, size / 2);
            case 4: return anE(level, size / 2) + " and " + anE(level, size / 2);
            case 5: return anE(level, size / 2) + (random.nextBoolean() ? "<" : " = ") + anE(level, size / 2);
            case 6: return anE(level, size / 2) + "*" + anE(level, size / 2);
            case 7: return "(" + anE(level + 1, size / 2) + ")-(" + anE(level + 1, size / 2) + ")";
            default: return anE(level, size - 1) + "+" + anE(level, size / 2);
        }
    }

    private long call(int which, int run, int call) {
        int a, b, c;
        long got, want;
        String name;
        switch (which) {
            case 1: a = in(0, 5); name = "sign"; got = real.sign(a); want = model.sign(a); break;
            case 2: a = aSign(); b = in(0, 4); name = "told"; got = real.told(a, b); want = model.told(a, b); break;
            case 3: a = in(1, 3); b = in(-2000, 2000); name = "worth"; got = real.worth(a, b); want = model.worth(a, b); break;
            case 4: a = in(0, 5); b = in(0, 3); c = in(0, 100); name = "goes"; got = real.goes(a, b, c); want = model.goes(a, b, c); break;
            case 5: a = aSign(); b = aSign(); c = in(0, 100); name = "like"; got = real.like(a, b, c); want = model.like(a, b, c); break;
            case 6: a = in(1, 100); name = "pace"; got = real.pace(a); want = model.pace(a); break;
            case 7:
                // seldom: what is fed here stands ahead of the text or plan that comes next
                a = random.nextInt(9) == 0 ? in(1, 8) : 0;
                long bytes = random.nextLong();
                name = "feed"; got = real.feed(a, bytes); want = model.feed(a, bytes); break;
            case 8: feedBoth(aRuleText()); name = "text"; got = real.text(); want = model.text(); break;
            case 9: a = in(0, model.count(3) - 1); name = "force"; got = real.force(a); want = model.force(a); break;
            case 10: feedBoth(aPlanText()); name = "plan"; got = real.plan(); want = model.plan(); break;
            case 11: a = aPlan(); b = in(-1, 6); c = in(0, 1); name = "planned"; got = real.planned(a, b, c); want = model.planned(a, b, c); break;
            case 12: a = aSet(); b = in(0, 3); name = "trial"; got = real.trial(a, b); want = model.trial(a, b); break;
            case 13: a = aSet(); b = in(0, 1); name = "sum"; got = real.sum(a, b); want = model.sum(a, b); break;
            case 14: a = aPlan(); b = in(1, 9); name = "days"; got = real.days(a, b); want = model.days(a, b); break;
            default: return callMore(which, run, call);
        }
        same("run " + run + ", call " + call + ": " + name, got, want);
        return got;
    }

    private long callMore(int which, int run, int call) {
        int a, b, c, d, e;
        long got, want;
        String name;
        switch (which) {
            case 15: a = aPlan(); b = in(0, random.nextInt(9) == 0 ? 100 : 9); name = "rests"; got = real.rests(a, b); want = model.rests(a, b); break;
            case 16: a = aPlan(); name = "blocked"; got = real.blocked(a); want = model.blocked(a); break;
            case 17: a = aSign(); b = in(0, 3); c = in(0, 1); name = "counted"; got = real.counted(a, b, c); want = model.counted(a, b, c); break;
            case 18: a = aPlan(); b = aSet(); c = in(0, random.nextBoolean() ? 99 : 20); name = "watched";
                if (model.count(6) > 3 && random.nextInt(5) > 0) {
                    a = -1;
                }
                got = real.watched(a, b, c); want = model.watched(a, b, c); break;
            case 19: a = in(0, 99); b = in(0, 2); name = "lets"; got = real.lets(a, b); want = model.lets(a, b); break;
            case 20: a = in(0, 50); name = "thrownOut"; got = real.thrownOut(a); want = model.thrownOut(a); break;
            case 21: a = in(0, 99); b = aSet(); c = in(0, 1); name = "next"; got = real.next(a, b, c); want = model.next(a, b, c); break;
            case 22: a = aSign(); b = aSign(); c = aPlan(); d = in(1, 6); e = in(1, random.nextBoolean() ? 8 : 99); name = "near";
                got = real.near(a, b, c, d, e); want = model.near(a, b, c, d, e); break;
            case 23: name = "image"; got = real.image(); want = model.image(); break;
            case 24: name = "back"; got = real.back(); want = model.back(); break;
            case 25: a = in(0, 8); name = "count"; got = real.count(a); want = model.count(a); break;
            case 26: a = in(0, 3); b = in(-1, 2); c = in(0, 40); name = "sheet"; got = real.sheet(a, b, c); want = model.sheet(a, b, c); break;
            case 27: a = in(0, 3); b = in(0, 30); c = random.nextBoolean() ? in(0, 4) : aSet(); name = "cell";
                got = real.cell(a, b, c); want = model.cell(a, b, c); break;
            case 28: a = in(0, 3); b = in(0, 9); c = in(0, 3); d = in(0, 9); e = in(0, 20); name = "copy";
                got = real.copy(a, b, c, d, e); want = model.copy(a, b, c, d, e); break;
            case 29: a = in(0, 3); b = in(0, 2); c = in(0, 9); d = in(0, 12); name = "trials";
                got = real.trials(a, b, c, d); want = model.trials(a, b, c, d); break;
            default: a = aSign(); b = in(0, 5); name = "taken"; got = real.taken(a, b); want = model.taken(a, b); break;
        }
        same("run " + run + ", call " + call + ": " + name, got, want);
        return got;
    }
}
