import java.util.ArrayList;
import java.util.List;
import java.util.function.IntFunction;

/** Objects that went the same way, of which one was asked something more: no later call may tell them apart. */
abstract class Twins {
    static final int NONE = -1, BAD = -2, STATE = -3, FULL = -4;
    static final long NO = -4611686018427387904L;
    static final int FAR = Integer.MAX_VALUE, LOW = Integer.MIN_VALUE;
    static final Way NEW = Twins::nothing, SOME = Twins::some, ALL = Twins::full;

    /** What is done with a new object ahead of the call that is looked at. */
    interface Way {
        void go(BellAndDrop x);
    }

    interface Call {
        long on(BellAndDrop x);
    }

    static BellAndDrop behind(Way way) {
        BellAndDrop x = new BellAndDrop();
        way.go(x);
        return x;
    }

    /** The call is answered so behind that way. */
    static void in(String what, Way way, Call call, long due) {
        Due.is(what, call.on(behind(way)), due);
    }

    /** The call is answered so behind that way, and nothing that later calls show has changed by it. */
    static void out(String what, Way way, Call call, long due) {
        BellAndDrop asked = behind(way);
        Due.is(what, call.on(asked), due);
        alike(what, asked, behind(way));
    }

    /** A call with each of these numbers is answered so, and nothing has changed by it. */
    static void outEach(String what, Way way, IntFunction<Call> call, long due, int... numbers) {
        for (int v : numbers) {
            out(what + ", " + v, way, call.apply(v), due);
        }
    }

    static void alike(String what, BellAndDrop a, BellAndDrop b) {
        Due.are(what + ": shown later", shown(a), shown(b));
    }

    // ---- ways

    static void nothing(BellAndDrop x) {
    }

    /** Three signs, two plans, three texts, two watched days, an image, all rows but one, a tape that is begun. */
    static void some(BellAndDrop x) {
        x.sign(1);
        x.sign(0);
        x.sign(4);
        Due.plan(x, "ab+c!-");
        Due.plan(x, "b+a?");
        Due.text(x, "gain 90+trial;fade 3+day;drop sum+5;");
        Due.text(x, "gain 7;fade 8;drop 90;");
        x.force(1);
        x.worth(2, -700);
        x.goes(1, 1, 80);
        x.like(0, 1, 40);
        x.pace(35);
        x.watched(0, 1, 8);
        x.watched(1, 3, 9);
        x.trial(3, 1);
        x.days(0, 2);
        x.image();
        x.trial(5, 3);
        x.days(1, 1);
        x.trial(1, 1);
        row(x, 0, 0, 1, 1, 2, 2, 4, 3, 3, 0, 7, 1);
        row(x, 1, 1, 2, 1, 1, 3, 6, 2, 5, 1);
        row(x, 2, 2, 4, 1, 3, 2, 1, 0);
        Due.feed(x, "gai");
    }

    /** As many of all as there is room for. */
    static void full(BellAndDrop x) {
        for (int i = 0; i < 8; i++) {
            x.sign(i % 6);
        }
        for (int i = 0; i < 8; i++) {
            Due.plan(x, (char) ('a' + i) + "+");
        }
        for (int i = 1; i < 6; i++) {
            Due.text(x, "gain " + i + "0;fade " + i + ";drop sum;");
        }
        for (int i = 0; i < 20; i++) {
            x.watched(i % 8, 1 + i, i);
        }
        for (int i = 0; i < 8; i++) {
            x.days(i, 50);
        }
        x.image();
        x.trial(255, 2);
        row(x, 0, 2, 1, 1, 200, 2);
        for (int i = 0; i < 20; i++) {
            x.feed(8, 0x2D2D2D2D2D2D2D2DL);
        }
    }

    static Way signs(int n) {
        return x -> {
            for (int i = 0; i < n; i++) {
                x.sign(0);
            }
        };
    }

    static void row(BellAndDrop x, int sheet, int sort, int... items) {
        x.sheet(sheet, sort, items.length);
        for (int i = 0; i < items.length; i++) {
            x.cell(sheet, i, items[i]);
        }
    }

    // ---- what later calls show, in some 350 of them

    private static long[] shown(BellAndDrop x) {
        List<Long> a = new ArrayList<>();
        counts(x, a);
        signs(x, a);
        plansAndDays(x, a);
        whatGoesWithWhat(x, a);
        texts(x, a);
        rows(x, a);
        tapeAndImage(x, a);
        long[] all = new long[a.size()];
        for (int i = 0; i < all.length; i++) {
            all[i] = a.get(i);
        }
        return all;
    }

    private static void counts(BellAndDrop x, List<Long> a) {
        for (int i = 0; i < 9; i++) {
            a.add((long) x.count(i));
        }
    }

    private static void signs(BellAndDrop x, List<Long> a) {
        for (int s = 0; s < 8; s++) {
            for (int what = 0; what < 5; what++) {
                a.add(x.told(s, what));
            }
            a.add(x.sum(1 << s, 0));
            a.add(x.sum(1 << s, 1));
        }
        for (int i = 0; i < 24; i++) {
            a.add(x.counted(i / 8, i / 2 % 4, i % 2));
        }
    }

    private static void plansAndDays(BellAndDrop x, List<Long> a) {
        for (int p = 0; p < 8; p++) {
            a.add((long) x.planned(p, -1, 0));
            a.add((long) x.planned(p, 0, 0));
            a.add((long) x.planned(p, 0, 1));
            a.add((long) x.blocked(p));
            a.add((long) x.rests(p, 3));
        }
        for (int slip = 0; slip < 30; slip += 10) {
            a.add((long) x.lets(slip, 0));
            a.add((long) x.lets(slip, 1));
            a.add((long) x.thrownOut(slip));
        }
        a.add((long) x.next(20, 1, 0));
        a.add((long) x.next(20, 1, 1));
        a.add((long) x.near(0, 1, 0, 2, 1));
    }

    private static void whatGoesWithWhat(BellAndDrop x, List<Long> a) {
        for (int end = 1; end < 4; end++) {
            a.add((long) x.worth(end, 900 - end));
        }
        for (int i = 0; i < 24; i++) {
            a.add((long) x.goes(i / 4, i % 4, 90));
        }
        for (int s = 0; s < 8; s++) {
            for (int t = 0; t < s; t++) {
                a.add((long) x.like(s, t, 5));
            }
        }
        a.add((long) x.pace(50));
    }

    private static void texts(BellAndDrop x, List<Long> a) {
        for (int t = 0; t < 6; t++) {
            a.add((long) x.force(t));
            a.add(x.told(0, 4));
            a.add(x.sum(1, 1));
            a.add(x.trial(1, 1));
        }
        a.add((long) x.force(0));
    }

    private static void rows(BellAndDrop x, List<Long> a) {
        for (int sheet = 0; sheet < 4; sheet++) {
            for (int sort = 0; sort < 3; sort++) {
                a.add((long) x.trials(sheet, sort, 0, 20));
            }
            for (int s = 0; s < 3; s++) {
                a.add(x.told(s, 1));
            }
        }
    }

    private static void tapeAndImage(BellAndDrop x, List<Long> a) {
        a.add((long) x.feed(1, '-'));
        a.add((long) x.plan());
        a.add((long) x.text());
        a.add((long) x.planned(0, -1, 0));
        a.add((long) x.back());
        counts(x, a);
        for (int s = 0; s < 8; s++) {
            a.add(x.told(s, 1));
            a.add(x.told(s, 2));
        }
        a.add(x.counted(0, 1, 0));
        a.add(x.counted(0, 1, 1));
        a.add((long) x.sign(0));
    }
}
