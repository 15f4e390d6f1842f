import java.lang.management.ManagementFactory;
import java.util.Random;

/** Any numbers in any state answer and end; the dearest calls keep to the room that a run has. */
public final class StrainTest {
    private static final int[] EDGES = {
        Integer.MIN_VALUE, Integer.MIN_VALUE + 1, -9999, -2001, -101, -14, -2, -1, 0, 1, 2, 3, 4, 5, 6, 7, 8, 9, 15, 20, 21, 24,
        31, 32, 39, 40, 41, 50, 51, 63, 99, 100, 101, 127, 128, 255, 256, 400, 2000, 32767, 65535, 1 << 30, 1 << 31,
        Integer.MAX_VALUE - 1, Integer.MAX_VALUE};

    private static long dearest = 0;

    public static void main(String[] args) {
        edgesInAnyState();
        dearestCalls();
        Due.end();
    }

    private static void edgesInAnyState() {
        for (int seed = 0; seed < 300; seed++) {
            Random random = new Random(seed);
            BellAndDrop x = prepared(random.nextInt(9), random.nextInt(9));
            for (int i = 0; i < 400; i++) {
                anyCall(x, random);
            }
            Due.is("it answers still", x.count(0) >= 0 && x.count(0) <= 8 ? 1 : 0, 1);
            Due.is("day", x.count(1) >= 0 && x.count(1) <= 400 ? 1 : 0, 1);
            for (int s = 0; s < x.count(0); s++) {
                Due.is("strength in its bounds", Math.abs(x.told(s, 1)) <= 9999 ? 1 : 0, 1);
                Due.is("fades in its bounds", x.told(s, 4) >= 0 && x.told(s, 4) <= 100 ? 1 : 0, 1);
            }
        }
    }

    private static BellAndDrop prepared(int signs, int plans) {
        BellAndDrop x = new BellAndDrop();
        for (int i = 0; i < signs; i++) {
            x.sign(i % 6);
        }
        for (int i = 0; i < plans; i++) {
            Due.plan(x, signs == 0 ? "+-" : "a+-a!");
        }
        return x;
    }

    private static void anyCall(BellAndDrop x, Random r) {
        int[] v = new int[5];
        for (int i = 0; i < 5; i++) {
            v[i] = r.nextInt(3) == 0 ? EDGES[r.nextInt(EDGES.length)] : r.nextInt(9);
        }
        switch (r.nextInt(30)) {
            case 0: x.sign(v[0]); break;
            case 1: x.told(v[0], v[1]); break;
            case 2: x.worth(v[0], v[1]); break;
            case 3: x.goes(v[0], v[1], v[2]); break;
            case 4: x.like(v[0], v[1], v[2]); break;
            case 5: x.pace(v[0]); break;
            case 6: x.feed(v[0], r.nextLong()); break;
            case 7: x.text(); break;
            case 8: x.force(v[0]); break;
            case 9: x.plan(); break;
            case 10: x.planned(v[0], v[1], v[2]); break;
            case 11: x.trial(v[0], v[1]); break;
            case 12: x.sum(v[0], v[1]); break;
            case 13: x.days(v[0], v[1]); break;
            case 14: x.rests(v[0], v[1]); break;
            case 15: x.blocked(v[0]); break;
            case 16: x.counted(v[0], v[1], v[2]); break;
            case 17: x.watched(v[0], v[1], v[2]); break;
            case 18: x.lets(v[0], v[1]); break;
            case 19: x.thrownOut(v[0]); break;
            case 20: x.next(v[0], v[1], v[2]); break;
            case 21: x.near(v[0], v[1], v[2], v[3], v[4]); break;
            case 22: x.image(); break;
            case 23: x.back(); break;
            case 24: x.count(v[0]); break;
            case 25: x.sheet(v[0], v[1], v[2]); break;
            case 26: x.cell(v[0], v[1], v[2]); break;
            case 27: x.copy(v[0], v[1], v[2], v[3], v[4]); break;
            case 28: x.trials(v[0], v[1], v[2], v[3]); break;
            default: x.taken(v[0], v[1]); break;
        }
    }

    /** Eight signs, longest plans, a long rule, all watched days; then 400 calls that go through all of it. */
    private static void dearestCalls() {
        long before = allocated();
        BellAndDrop x = Due.withSigns(0, 1, 2, 3, 4, 5, 0, 1);
        for (int i = 0; i < 8; i++) {
            // 24 trials, as many letters as the tape has room for
            Due.is("a long plan", Due.plan(x, "abcde+".repeat(16) + "abcdefg!".repeat(8)), i);
        }
        StringBuilder rule = new StringBuilder("gain 100");
        while (rule.length() < 130) {
            rule.append("*1+0*1");
        }
        Due.is("a long rule", Due.text(x, rule + ";fade 4;drop sum;"), 1);
        x.force(1);
        for (int i = 0; i < 20; i++) {
            x.watched(0, 1, 50);
        }
        for (int i = 0; i < 100; i++) {
            x.lets(99, 0);
            x.next(99, 1, 1);
            x.near(0, 1, 0, 20, 99);
            x.rests(0, 100);
        }
        dearest = allocated() - before;
        // an element of the room is some four to sixteen bytes here; a run has 7.3 million of them
        Due.is("room of a run of dearest calls: " + dearest + " bytes, few enough", dearest < 500_000 ? 1 : 0, 1);
    }

    private static long allocated() {
        return ((com.sun.management.ThreadMXBean) ManagementFactory.getThreadMXBean())
            .getThreadAllocatedBytes(Thread.currentThread().getId());
    }
}
