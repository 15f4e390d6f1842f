/** Promises 19 to 26 at their bounds, as BoundsTest has those ahead of them. */
public final class WatchedBoundsTest extends Twins {
    public static void main(String[] args) {
        watched();
        watchedUpToTheLast();
        lets();
        letsBySlip();
        letsOnlyTheLeastOrTheGreatest();
        thrownOut();
        thrownOutByEach();
        next();
        nextOfLikeOnes();
        nextByState();
        near();
        nearAtItsEnds();
        nearByDays();
        back();
        backWithSignsThatCame();
        backToTheLastImage();
        count();
        Due.end();
    }

    // Promise 19: "A WATCHED DAY: its number. BAD: PLAN, SIGNS (none, too), DROPS (0 .. 99); FULL."
    private static void watched() {
        in("plan 0, one sign, no drops", SOME, x -> x.watched(0, 1, 0), 2);
        in("the last plan, all signs, most drops", SOME, x -> x.watched(1, 7, 99), 2);
        outEach("watched plan", SOME, v -> x -> x.watched(v, 1, 5), BAD, -1, 2, FAR, LOW);
        outEach("watched signs", SOME, v -> x -> x.watched(0, v, 5), BAD, 0, 8, -1, FAR, LOW);
        outEach("watched drops", SOME, v -> x -> x.watched(0, 1, v), BAD, -1, 100, FAR, LOW);
        out("no plan", signs(1), x -> x.watched(0, 1, 5), BAD);
        out("no signs", x -> Due.plan(x, "-"), x -> x.watched(0, 1, 5), BAD);
    }

    // "WATCHED DAYS (20 at most)"
    private static void watchedUpToTheLast() {
        for (int there = 0; there < 20; there++) {
            int n = there;
            in("one where there are " + n, watchedTimes(n), x -> x.watched(0, 1, 5), n);
        }
        out("one where there are 20", watchedTimes(20), x -> x.watched(0, 1, 5), FULL);
        out("one of all", ALL, x -> x.watched(0, 1, 5), FULL);
        outEach("one of all: BAD comes first, plan", ALL, v -> x -> x.watched(v, 1, 5), BAD, -1, 8);
        outEach("one of all: BAD comes first, signs", ALL, v -> x -> x.watched(0, v, 5), BAD, 0, 256);
        outEach("one of all: BAD comes first, drops", ALL, v -> x -> x.watched(0, 1, v), BAD, -1, 100);
    }

    private static Way watchedTimes(int n) {
        return x -> {
            x.sign(0);
            Due.plan(x, "a+");
            for (int i = 0; i < n; i++) {
                x.watched(0, 1, 0);
            }
        };
    }

    /** DROPS of a behind a day by the plan, from nothing on, are a fifth of the PACE less 1: 0 by 5, 19 by 100. */
    private static Way seen(int drops) {
        return x -> {
            x.sign(0);
            Due.plan(x, "a+");
            x.watched(0, 1, drops);
        };
    }

    // Promise 20: "LETS of a slip (0 .. 99): what 0 how many PACES, 1 the least, 2 the greatest (NONE: there is none). BAD."
    private static void lets() {
        out("slip 0", SOME, x -> x.lets(0, 0), 0);
        out("slip 0, least", SOME, x -> x.lets(0, 1), NONE);
        out("slip 0, greatest", SOME, x -> x.lets(0, 2), NONE);
        out("slip 99", SOME, x -> x.lets(99, 0), 20);
        out("slip 99, least", SOME, x -> x.lets(99, 1), 5);
        out("slip 99, greatest", SOME, x -> x.lets(99, 2), 100);
        outEach("lets of slip", SOME, v -> x -> x.lets(v, 0), BAD, -1, 100, FAR, LOW);
        outEach("lets what", SOME, v -> x -> x.lets(5, v), BAD, -1, 3, FAR, LOW);
        in("none watched, slip 0", NEW, x -> x.lets(0, 0), 20);
        in("none watched, the least", NEW, x -> x.lets(0, 1), 5);
        in("none watched, the greatest", NEW, x -> x.lets(0, 2), 100);
    }

    // "DROPS of each of these are off by no more than a slip"
    private static void letsBySlip() {
        for (int drops : new int[] {0, 1, 9, 18, 19, 20, 50, 99}) {
            BellAndDrop x = behind(seen(drops));
            for (int slip = 0; slip < 100; slip += slip < 23 ? 1 : 19) {
                int least = Math.max(0, drops - slip);
                int greatest = Math.min(19, drops + slip);
                String what = "seen " + drops + ", slip " + slip;
                boolean some = least <= greatest;
                Due.is(what + ": how many", x.lets(slip, 0), some ? greatest - least + 1 : 0);
                Due.is(what + ": the least", x.lets(slip, 1), some ? 5 * least + 5 : NONE);
                Due.is(what + ": the greatest", x.lets(slip, 2), some ? 5 * greatest + 5 : NONE);
                Due.is(what + ": thrown out", x.thrownOut(slip), some ? NONE : 0);
            }
        }
    }

    // "A PACE (5, 10, .. 100)"
    private static void letsOnlyTheLeastOrTheGreatest() {
        in("only one", seen(0), x -> x.lets(0, 0), 1);
        in("it is 5", seen(0), x -> x.lets(0, 2), 5);
        in("only one", seen(19), x -> x.lets(0, 0), 1);
        in("it is 100", seen(19), x -> x.lets(0, 1), 100);
        in("none", seen(20), x -> x.lets(0, 0), 0);
        // whatever the PACE in force is
        in("and 5 by pace 1", seen(0), x -> x.pace(1) * 0 + x.lets(0, 1), 5);
    }

    // Promise 21: "THROWN OUT. NONE: some are left; BAD."
    private static void thrownOut() {
        // 30 alone has 8 drops behind the first, and 10, not 9, behind the second
        out("slip 0", SOME, x -> x.thrownOut(0), 1);
        out("slip 99", SOME, x -> x.thrownOut(99), NONE);
        outEach("thrownOut", SOME, v -> x -> x.thrownOut(v), BAD, -1, 100, FAR, LOW);
        out("none watched", NEW, x -> x.thrownOut(0), NONE);
        out("by 19 all are let but 100, and 100 by 19", seen(25), x -> x.thrownOut(6), NONE);
        out("none is let", seen(25), x -> x.thrownOut(5), 0);
    }

    // "the first WATCHED DAY by which none is left"
    private static void thrownOutByEach() {
        for (int last = 0; last < 20; last++) {
            int n = last;
            Way way = x -> {
                x.sign(0);
                Due.plan(x, "a-");
                Due.plan(x, "a+");
                for (int i = 0; i < n; i++) {
                    x.watched(0, 1, 0);
                }
                x.watched(1, 1, 99);
                while (x.count(6) < 20) {
                    x.watched(1, 1, 1);
                }
            };
            in("by watched day " + n, way, x -> x.thrownOut(79), n);
            in("80 is 99 less 19", way, x -> x.thrownOut(80), NONE);
        }
        // one throws all out but 5, a later one 5 too: that one is the day
        Way two = x -> {
            x.sign(0);
            Due.plan(x, "a+");
            x.watched(0, 1, 0);
            x.watched(0, 1, 99);
        };
        in("by the second", two, x -> x.thrownOut(0), 1);
        in("by a slip of 18 the second", two, x -> x.thrownOut(18), 1);
    }

    // Promise 22: "the PLAN (what 0), what it PARTS (1). BAD: slip, SIGNS (none, too), what; STATE: LETS has none, there is no PLAN."
    private static void next() {
        outEach("slip", SOME, v -> x -> x.next(v, 1, 0), BAD, -1, 100, FAR, LOW);
        outEach("signs", SOME, v -> x -> x.next(99, v, 0), BAD, 0, 8, -1, FAR, LOW);
        outEach("what", SOME, v -> x -> x.next(99, 1, v), BAD, -1, 2, FAR, LOW);
        out("slip 99, one sign, the plan", SOME, x -> x.next(99, 1, 0), 0);
        out("slip 0: none is let", SOME, x -> x.next(0, 7, 1), STATE);
        outEach("none is let: BAD comes first, slip", SOME, v -> x -> x.next(v, 1, 0), BAD, -1, 100);
        outEach("none is let: BAD comes first, signs", SOME, v -> x -> x.next(0, v, 0), BAD, 0, 8);
        outEach("none is let: BAD comes first, what", SOME, v -> x -> x.next(0, 1, v), BAD, -1, 2);
        out("no plan", signs(1), x -> x.next(0, 1, 0), STATE);
        outEach("no plan: BAD comes first, slip", signs(1), v -> x -> x.next(v, 1, 0), BAD, -1, 100);
        outEach("no plan: BAD comes first, signs", signs(1), v -> x -> x.next(0, v, 0), BAD, 0, 2);
        outEach("no plan: BAD comes first, what", signs(1), v -> x -> x.next(0, 1, v), BAD, -1, 2);
        out("all signs of eight", ALL, x -> x.next(99, 255, 0) >= 0 ? 1 : 0, 1);
        out("beyond them", ALL, x -> x.next(99, 256, 0), BAD);
    }

    private static void nextByState() {
        in("19 is let by 6", seen(25), x -> x.next(6, 1, 0), 0);
        in("one PACE parts nothing", seen(25), x -> x.next(6, 1, 1), 0);
        out("none by 5", seen(25), x -> x.next(5, 1, 0), STATE);
        out("none by 5", seen(25), x -> x.next(5, 1, 1), STATE);
    }

    private static Way plans(String... plans) {
        return x -> {
            x.sign(0);
            for (String p : plans) {
                Due.plan(x, p);
            }
        };
    }

    // "NEXT: the PLAN that PARTS most; of like ones the least."
    private static void nextOfLikeOnes() {
        Way last = plans("-", "-", "-", "-", "-", "-", "-", "a+");
        in("the last of eight", last, x -> x.next(0, 1, 0), 7);
        in("what it parts", last, x -> x.next(0, 1, 1), 19);
        Way like = plans("-", "-", "-", "a+", "a-", "a+", "-", "a+");
        in("the least of like ones", like, x -> x.next(0, 1, 0), 3);
        in("all part nothing", plans("-", "a-", "-"), x -> x.next(0, 1, 0), 0);
        in("nothing", plans("-", "a-", "-"), x -> x.next(0, 1, 1), 0);
        // by the greatest PACE it drops less: apart all the same
        Way less = plans("a+");
        in("however they lie", less, x -> Due.text(x, "gain 100;fade 4;drop 500-sum;") * 0 + x.force(1) * 0 + x.next(0, 1, 1), 19);
    }

    // Promise 23: "NEAR of two SIGNS. NONE; BAD: SIGNS (alike, too), PLAN, n, number."
    private static void near() {
        outEach("a", SOME, v -> x -> x.near(v, 1, 0, 5, 5), BAD, -1, 3, FAR, LOW);
        outEach("b", SOME, v -> x -> x.near(0, v, 0, 5, 5), BAD, -1, 3, FAR, LOW);
        outEach("alike", SOME, v -> x -> x.near(v, v, 0, 5, 5), BAD, 0, 1, 2, 3, -1);
        outEach("plan", SOME, v -> x -> x.near(0, 1, v, 5, 5), BAD, -1, 2, FAR, LOW);
        outEach("n", SOME, v -> x -> x.near(0, 1, 0, v, 5), BAD, 0, 21, -1, FAR, LOW);
        outEach("number", SOME, v -> x -> x.near(0, 1, 0, 5, v), BAD, 0, 100, -1, FAR, LOW);
        out("two signs, no plan", signs(2), x -> x.near(0, 1, 0, 1, 1), BAD);
        out("one sign", seen(1), x -> x.near(0, 1, 0, 1, 1), BAD);
        out("the last two of eight, never apart", ALL, x -> x.near(6, 7, 0, 1, 1), NONE);
        outEach("none of eight", ALL, v -> x -> x.near(6, v, 0, 1, 1), BAD, 6, 8);
        in("far apart at last", SOME, x -> x.near(0, 1, 0, 20, 99), NONE);
    }

    /** a comes by the plan, b has no STRENGTH of its own; DROPS of each are what the rule says. */
    private static Way alone(String rule) {
        return x -> {
            x.sign(1);
            x.sign(0);
            Due.plan(x, "a+");
            Due.text(x, "gain 100;fade 4;drop " + rule + ";");
            x.force(1);
        };
    }

    // "(100, 95, .. 0) .. apart by no less than a number (1 .. 99): the greatest; NONE"
    private static void nearAtItsEnds() {
        // KIND is 1 of a and 0 of b, whatever LIKE is
        out("apart by 99", alone("kind*990"), x -> x.near(0, 1, 0, 1, 99), 100);
        out("apart by 99 is beyond 98", alone("kind*989"), x -> x.near(0, 1, 0, 1, 99), NONE);
        out("apart by 98", alone("kind*989"), x -> x.near(1, 0, 0, 1, 98), 100);
        out("apart by 1", alone("kind*10"), x -> x.near(0, 1, 0, 1, 1), 100);
        out("not by 1", alone("kind*9"), x -> x.near(0, 1, 0, 1, 1), NONE);
        // a has 90 * 98 / 100: 88, its SUM; that of b alone is what LIKE lends it
        out("only by 0", alone("(sum=0)*10"), x -> x.near(0, 1, 0, 1, 1), 0);
        out("by what is lent", alone("sum*990-strength*990"), x -> x.near(0, 1, 0, 1, 99), 100);
        out("by anything but 100", alone("(sum<88)*10"), x -> x.near(0, 1, 0, 1, 1), 95);
        out("by 5 and less", alone("(sum<5)*10"), x -> x.near(0, 1, 0, 1, 1), 5);
        out("by less than 5", alone("(sum<4)*10"), x -> x.near(0, 1, 0, 1, 1), 0);
    }

    // "behind n DAYS (1 .. 20) by a PLAN, from no STRENGTHS on" (DAY 0)
    private static void nearByDays() {
        for (int n = 1; n <= 20; n++) {
            int days = n;
            out("behind " + n + " days", alone("kind*10*(day=" + n + ")"), x -> x.near(0, 1, 0, days, 1), 100);
        }
        out("behind 20 days it is not day 19", alone("kind*10*(day=19)"), x -> x.near(0, 1, 0, 20, 1), NONE);
        in("whatever DAY it is", alone("kind*10*(day=1)"), x -> x.days(0, 50) * 0 + x.near(0, 1, 0, 1, 1), 100);
        // a has 74, b 61: 74 + 51 + 5 and 61 + 62 + 5 by 85, 133 and 132 by 90
        in("by the least n and number", SOME, x -> x.near(0, 1, 0, 1, 1), 85);
    }

    // Promise 25: "All that it keeps is as in THE IMAGE: DAY. STATE: there is none."
    private static void back() {
        out("none", NEW, x -> x.back(), STATE);
        out("none", stepsWithoutImage(), x -> x.back(), STATE);
        in("one of day 0", NEW, x -> x.image() + x.back(), 0);
        in("one of day 2", SOME, x -> x.back(), 2);
        in("again", SOME, x -> x.back() * 0 + x.back(), 2);
        in("one of day 400", ALL, x -> x.back(), 400);
        BellAndDrop x = behind(SOME);
        x.image();
        x.days(0, 3);
        x.trial(7, 2);
        x.pace(99);
        x.force(0);
        x.back();
        BellAndDrop y = behind(SOME);
        y.image();
        alike("back is as it was", x, y);
    }

    private static Way stepsWithoutImage() {
        return x -> {
            x.sign(1);
            Due.plan(x, "a+");
            x.days(0, 5);
            x.trial(1, 2);
        };
    }

    // "(SIGNS that came since keep their STRENGTH, and were never ON then)"
    private static void backWithSignsThatCame() {
        for (int n = 0; n < 8; n++) {
            BellAndDrop x = behind(signs(n));
            x.trial((1 << n) - 1, 1);
            x.image();
            while (x.count(0) < 8) {
                x.sign(0);
            }
            x.trial(255, 2);
            x.trial(255, 3);
            long[] had = new long[8];
            for (int s = 0; s < 8; s++) {
                had[s] = x.told(s, 1);
            }
            x.back();
            for (int s = 0; s < 8; s++) {
                Due.is("strength of " + s + " of " + n, x.told(s, 1), s < n ? 60 : had[s]);
                Due.is("on of " + s + " of " + n, x.told(s, 2), s < n ? 1 : 0);
                Due.is("counted of " + s + " of " + n, x.counted(s, 1, 0), s < n ? 1 : -1);
            }
            Due.is("trials", x.count(7), 1);
            Due.is("signs stay", x.count(0), 8);
        }
    }

    private static void backToTheLastImage() {
        BellAndDrop x = behind(SOME);
        x.days(0, 1);
        Due.is("image", x.image(), 4);
        x.days(0, 1);
        Due.is("the image of day 2 is no more", x.back(), 4);
        Due.is("day", x.count(1), 4);
        BellAndDrop y = behind(signs(1));
        y.image();
        y.sign(0);
        y.trial(2, 1);
        y.image();
        y.trial(2, 2);
        y.back();
        Due.is("it came since the first, not since the last", y.told(1, 1), 60);
        Due.is("on", y.told(1, 2), 1);
    }

    // Promise 26: "How many: 0 SIGNS, .. 8 PACE. BAD."
    private static void count() {
        long[] some = {3, 3, 2, 3, 3, 1, 2, 11, 35};
        long[] all = {8, 400, 8, 6, 160, 0, 20, 401, 30};
        for (int i = 0; i < 9; i++) {
            int what = i;
            out("count(" + i + ")", SOME, x -> x.count(what), some[i]);
            out("count(" + i + ") of all", ALL, x -> x.count(what), all[i]);
        }
        outEach("count", SOME, v -> x -> x.count(v), BAD, -1, 9, FAR, LOW);
    }
}
