/** Promises 19 to 26: watched, lets, thrownOut, next, near, image, back, count. */
public final class WatchedTest {
    private static final long NO = BellAndDrop.NO;

    public static void main(String[] args) {
        watched();
        lets();
        letsStartsAnew();
        letsBehindBlocked();
        thrownOut();
        next();
        near();
        nearByOthers();
        imageAndBack();
        backWithNewSigns();
        backWithTrialsOfTheDay();
        count();
        Due.end();
    }

    private static void watched() {
        BellAndDrop x = Due.withSigns(0, 0);
        Due.is("no plan yet", x.watched(0, 1, 5), -2);
        Due.plan(x, "a+");
        Due.is("plan 1", x.watched(1, 1, 5), -2);
        Due.is("plan -1", x.watched(-1, 1, 5), -2);
        Due.is("no signs", x.watched(0, 0, 5), -2);
        Due.is("signs 4", x.watched(0, 4, 5), -2);
        Due.is("signs -1", x.watched(0, -1, 5), -2);
        Due.is("drops -1", x.watched(0, 1, -1), -2);
        Due.is("drops 100", x.watched(0, 1, 100), -2);
        Due.is("count(6)", x.count(6), 0);
        for (int i = 0; i < 20; i++) {
            Due.is("watched day " + i, x.watched(0, 1 + i % 3, i % 2 * 99), i);
        }
        Due.is("one more", x.watched(0, 1, 0), -4);
        Due.is("one more: BAD comes first", x.watched(0, 1, 100), -2);
        Due.is("count(6)", x.count(6), 20);
        Due.is("count(1)", x.count(1), 0);
    }

    private static void lets() {
        BellAndDrop x = Due.withSigns(0);
        Due.plan(x, "a+");
        Due.is("none watched: all", x.lets(0, 0), 20);
        Due.is("none watched: least", x.lets(0, 1), 5);
        Due.is("none watched: greatest", x.lets(0, 2), 100);
        Due.is("lets(-1, 0)", x.lets(-1, 0), -2);
        Due.is("lets(100, 0)", x.lets(100, 0), -2);
        Due.is("lets(0, 3)", x.lets(0, 3), -2);
        Due.is("lets(0, -1)", x.lets(0, -1), -2);
        x.watched(0, 1, 10);
        // DROPS of pace p behind one day: 2p * 96 / 100 / 10: 45 8, 50 9, 55 10, 60 11, 65 12
        Due.is("slip 0", x.lets(0, 0), 1);
        Due.is("slip 0, least", x.lets(0, 1), 55);
        Due.is("slip 0, greatest", x.lets(0, 2), 55);
        Due.is("slip 1", x.lets(1, 0), 3);
        Due.is("slip 1, least", x.lets(1, 1), 50);
        Due.is("slip 1, greatest", x.lets(1, 2), 60);
        Due.is("slip 99", x.lets(99, 0), 20);
        x.watched(0, 1, 99);
        Due.is("none left", x.lets(0, 0), 0);
        Due.is("none left, least", x.lets(0, 1), -1);
        Due.is("none left, greatest", x.lets(0, 2), -1);
        Due.is("count(1)", x.count(1), 0);
        Due.is("count(7)", x.count(7), 0);
        Due.is("count(8)", x.count(8), 30);
    }

    /** Whatever days went by, watched days are gone through from no strengths on. */
    private static void letsStartsAnew() {
        BellAndDrop x = Due.withRule("gain 100*(trial=0);fade 4*(day=0);drop sum*(day=1);", 4);
        Due.plan(x, "a+a+");
        for (int i = 0; i < 9; i++) {
            x.trial(1, 2);
        }
        x.days(0, 3);
        x.trial(1, 1);
        x.pace(77);
        x.watched(0, 1, 14);
        // 3p * 96 / 100 / 10 is 14 by 50: 144
        Due.is("the pace", x.lets(0, 1), 50);
        Due.is("and no other", x.lets(0, 0), 1);
        Due.is("count(8)", x.count(8), 77);
        Due.is("count(1)", x.count(1), 3);
        x.watched(0, 1, 0);
        Due.is("on the second day drop says 0", x.lets(0, 0), 1);
        x.force(0);
        Due.is("by another rule", x.lets(0, 0), 0);
        x.force(1);
        x.goes(4, 1, 50);
        // half of it: 14 by 100, 13 by 95
        Due.is("by another goes", x.lets(0, 1), 100);
    }

    /** What was thought through ahead of it does not count either. */
    private static void letsBehindBlocked() {
        BellAndDrop x = Due.withRule("gain 100*(trial=0);fade 0;drop sum;", 0);
        Due.plan(x, "a+a+a+");
        x.watched(0, 1, 1);
        Due.is("by 5", x.lets(0, 1), 5);
        x.blocked(0);
        Due.is("by 5 still", x.lets(0, 1), 5);
        BellAndDrop y = Due.withRule("gain 100*(trial=3);fade 0;drop sum;", 4);
        Due.plan(y, "a+a+a+a+");
        y.watched(0, 1, 30);
        // on 3 times it is not dull yet
        Due.is("by 100, from never on", y.lets(0, 1), 100);
    }

    private static void thrownOut() {
        BellAndDrop x = Due.withSigns(0);
        Due.plan(x, "a+");
        Due.is("thrownOut(-1)", x.thrownOut(-1), -2);
        Due.is("thrownOut(100)", x.thrownOut(100), -2);
        Due.is("none watched", x.thrownOut(0), -1);
        x.watched(0, 1, 10);
        Due.is("55 is left", x.thrownOut(0), -1);
        // behind the second day 55 has 105 + 895 * 20 / 100 * 55 / 100 = 203; * 96 / 100 = 194
        x.watched(0, 1, 18);
        Due.is("by the second", x.thrownOut(0), 1);
        Due.is("not by a slip of 1", x.thrownOut(1), -1);
        x.watched(0, 1, 0);
        Due.is("by the third", x.thrownOut(1), 2);
        Due.is("still by the second", x.thrownOut(0), 1);
        Due.is("slip 99", x.thrownOut(99), -1);
        BellAndDrop y = Due.withSigns(0);
        Due.plan(y, "a+");
        y.watched(0, 1, 99);
        Due.is("by the first", y.thrownOut(0), 0);
    }

    private static void next() {
        BellAndDrop x = Due.withSigns(0, 0);
        Due.is("no plan", x.next(0, 1, 0), -3);
        Due.is("BAD comes first", x.next(0, 0, 0), -2);
        Due.plan(x, "-");
        Due.plan(x, "a+");
        Due.plan(x, "a+a+");
        Due.plan(x, "a+a+");
        Due.plan(x, "b!");
        Due.is("next(-1, 1, 0)", x.next(-1, 1, 0), -2);
        Due.is("next(100, 1, 0)", x.next(100, 1, 0), -2);
        Due.is("next(0, 4, 0)", x.next(0, 4, 0), -2);
        Due.is("next(0, -1, 0)", x.next(0, -1, 0), -2);
        Due.is("next(0, 1, 2)", x.next(0, 1, 2), -2);
        Due.is("next(0, 1, -1)", x.next(0, 1, -1), -2);
        // 5: 10, 19 * 96 / 100 = 18: 1; 100: 200, 360 * 96 / 100 = 345: 34
        Due.is("the plan", x.next(0, 1, 0), 2);
        Due.is("what it parts", x.next(0, 1, 1), 33);
        Due.is("all alike: the least", x.next(0, 2, 0), 0);
        Due.is("what it parts", x.next(0, 2, 1), 0);
        x.watched(1, 1, 10);
        Due.is("one pace parts nothing", x.next(0, 1, 1), 0);
        Due.is("so the least plan", x.next(0, 1, 0), 0);
        // a slip of 1 lets 50 to 60, which have 96 and 115; by a+a+ then
        // 50: 96 + 90 = 186, + 81 = 267, * 96 / 100 = 256: 25; 60: 115 + 106 = 221, + 93 = 314, 301: 30
        Due.is("behind a watched day", x.next(1, 1, 1), 5);
        Due.is("the plan", x.next(1, 1, 0), 2);
        x.watched(1, 1, 99);
        Due.is("lets has none", x.next(1, 1, 0), -3);
        Due.is("BAD comes first", x.next(1, 0, 0), -2);
        Due.is("count(1)", x.count(1), 0);
    }

    private static void near() {
        BellAndDrop x = Due.withSigns(0, 0);
        Due.plan(x, "a+");
        // a has 57 behind a day, 5 drops; b 57 * v / 100 / 10
        Due.is("apart by 1", x.near(0, 1, 0, 1, 1), 85);
        Due.is("the other way round", x.near(1, 0, 0, 1, 1), 85);
        Due.is("apart by 5", x.near(0, 1, 0, 1, 5), 15);
        Due.is("apart by 6", x.near(0, 1, 0, 1, 6), -1);
        Due.is("alike", x.near(0, 0, 0, 1, 1), -2);
        Due.is("near(2, ..)", x.near(2, 0, 0, 1, 1), -2);
        Due.is("near(0, -1, ..)", x.near(0, -1, 0, 1, 1), -2);
        Due.is("plan 1", x.near(0, 1, 1, 1, 1), -2);
        Due.is("plan -1", x.near(0, 1, -1, 1, 1), -2);
        Due.is("n 0", x.near(0, 1, 0, 0, 1), -2);
        Due.is("n 21", x.near(0, 1, 0, 21, 1), -2);
        Due.is("n 20", x.near(0, 1, 0, 20, 99), -1);
        Due.is("apart 0", x.near(0, 1, 0, 1, 0), -2);
        Due.is("apart 100", x.near(0, 1, 0, 1, 100), -2);
        x.like(0, 1, 40);
        Due.is("whatever like is", x.near(0, 1, 0, 1, 1), 85);
        Due.is("like stays", x.like(0, 1, 40), 40);
        Due.is("count(1)", x.count(1), 0);
    }

    private static void nearByOthers() {
        BellAndDrop x = Due.withSigns(0, 0, 0);
        Due.plan(x, "a+");
        Due.plan(x, "a+b+");
        x.like(1, 2, 10);
        for (int i = 0; i < 5; i++) {
            x.trial(7, 2);
        }
        x.days(0, 2);
        // days that went by don't count
        Due.is("from no strengths on", x.near(0, 1, 0, 1, 1), 85);
        x.pace(100);
        // 200 * 96 / 100 = 192: 19 drops; b 18 by 95: 182
        Due.is("by the pace as it is", x.near(0, 1, 0, 1, 1), 95);
        Due.is("as far apart as a drops", x.near(0, 1, 0, 1, 19), 5);
        x.worth(1, 2000);
        Due.is("by the worth as it is", x.near(0, 1, 0, 1, 38), 0);
        Due.is("of a and c, whatever b and c are", x.near(0, 2, 0, 1, 1), 95);
        Due.text(x, "gain 100;fade 0;drop kind*day*10;");
        x.force(1);
        Due.is("both drop the same", x.near(0, 1, 1, 3, 1), -1);
        x.sign(2);
        Due.is("by kind and day: 6 apart", x.near(0, 3, 1, 3, 6), 100);
        Due.is("not 7", x.near(0, 3, 1, 3, 7), -1);
    }

    private static void imageAndBack() {
        BellAndDrop x = Due.withSigns(0, 4);
        Due.plan(x, "ab+a-");
        Due.text(x, "gain 50;fade 50;drop 10;");
        Due.is("back without one", x.back(), -3);
        Due.is("image on day 0", x.image(), 0);
        x.days(0, 5);
        x.trial(1, 3);
        x.pace(44);
        x.force(1);
        long a = x.told(0, 1);
        long b = x.told(1, 1);
        Due.is("a newer image", x.image(), 5);
        x.days(0, 7);
        x.trial(3, 2);
        x.pace(55);
        x.force(0);
        x.worth(1, 7);
        x.goes(0, 0, 8);
        x.like(0, 1, 9);
        x.watched(0, 1, 1);
        Due.plan(x, "a+");
        Due.text(x, "gain 1;fade 1;drop 1;");
        x.feed(3, 0);
        for (int again = 0; again < 2; again++) {
            Due.is("back", x.back(), 5);
            Due.is("day", x.count(1), 5);
            Due.is("a", x.told(0, 1), a);
            Due.is("b", x.told(1, 1), b);
            Due.is("on a", x.told(0, 2), 11);
            Due.is("on b", x.told(1, 2), 5);
            Due.is("rule", x.count(5), 1);
            Due.is("pace", x.count(8), 44);
            Due.is("all trials", x.count(7), 11);
            // shock: 0 of 11 with a; sickness 1 of 11
            Due.is("counted, shock", x.counted(0, 2, 0), 0);
            Due.is("counted, sickness", x.counted(0, 3, 1), 11);
            x.days(0, 1);
            x.trial(1, 1);
        }
        // what an image does not keep stays
        Due.is("worth", x.worth(1, 7), 7);
        Due.is("goes", x.goes(0, 0, 8), 8);
        Due.is("like", x.like(0, 1, 9), 9);
        Due.is("watched days", x.count(6), 1);
        Due.is("plans", x.count(2), 2);
        Due.is("texts", x.count(3), 3);
        Due.is("bytes", x.count(4), 3);
        x.image();
        Due.is("refusals keep it", x.days(9, 9), -2);
        Due.is("back", x.back(), 6);
    }

    private static void backWithNewSigns() {
        BellAndDrop x = Due.withSigns(0);
        x.trial(1, 1);
        x.image();
        x.sign(4);
        for (int i = 0; i < 8; i++) {
            x.trial(3, 1);
        }
        long b = x.told(1, 1);
        Due.is("b grew dull", x.told(1, 3), 28);
        x.back();
        Due.is("a", x.told(0, 1), 60);
        Due.is("b keeps its strength", x.told(1, 1), b);
        Due.is("b was never on", x.told(1, 2), 0);
        Due.is("b is loud again", x.told(1, 3), 30);
        Due.is("signs stay", x.count(0), 2);
        Due.is("b, meat: above", x.counted(1, 1, 0), -1);
        Due.is("b, meat: below", x.counted(1, 1, 1), 1);
        Due.is("taken", x.taken(1, 4), 0);
        x.trial(2, 2);
        long later = x.told(1, 1);
        x.back();
        Due.is("it keeps what it has then", x.told(1, 1), later);
        Due.is("told(2, 1)", x.told(2, 1), NO);
        BellAndDrop y = Due.withSigns(0, 0, 0, 0, 0, 0, 0, 0);
        y.trial(128, 1);
        y.trial(0, 0);
        y.image();
        y.trial(128, 2);
        y.trial(128, 2);
        y.back();
        Due.is("h, meat: above", y.counted(7, 1, 0), 1);
        Due.is("h, meat: below", y.counted(7, 1, 1), 1);
        Due.is("h, shock: above", y.counted(7, 2, 0), 0);
    }

    /** The trials of the day that an image keeps are those that there were; see NOTES. */
    private static void backWithTrialsOfTheDay() {
        BellAndDrop x = Due.withRule("gain 100*(trial=1);fade 0;drop 0;", 0);
        x.trial(0, 0);
        x.image();
        x.trial(0, 0);
        x.trial(0, 0);
        x.back();
        x.trial(1, 1);
        Due.is("gain in the second trial of the day", x.told(0, 1), 60);
    }

    private static void count() {
        BellAndDrop x = Due.withSigns(0, 1, 2);
        Due.plan(x, "a+b-");
        Due.plan(x, "c!");
        Due.text(x, "gain 1;fade 1;drop 1;");
        x.feed(5, 0);
        x.force(1);
        x.watched(0, 1, 0);
        x.days(0, 4);
        x.trial(1, 1);
        x.pace(31);
        long[] got = new long[9];
        for (int i = 0; i < 9; i++) {
            got[i] = x.count(i);
        }
        Due.are("counts", got, 3, 4, 2, 2, 5, 1, 1, 9, 31);
        Due.is("count(-1)", x.count(-1), -2);
        Due.is("count(9)", x.count(9), -2);
        Due.is("count(MIN)", x.count(Integer.MIN_VALUE), -2);
    }
}
