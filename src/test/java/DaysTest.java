/** Promises 13 to 18: trial, sum, days, rests, blocked, counted. */
public final class DaysTest {
    private static final long NO = BellAndDrop.NO;
    private static final int FAR = Integer.MAX_VALUE, LOW = Integer.MIN_VALUE;

    public static void main(String[] args) {
        trial();
        trialCutsStepByStep();
        trialByTheRule();
        trialAtTheBounds();
        sum();
        days();
        daysByTheRule();
        rests();
        blocked();
        counted();
        Due.end();
    }

    private static void trial() {
        BellAndDrop x = Due.withSigns(0, 1);
        Due.is("first", x.trial(3, 1), 1000);
        // 1000 * 20 / 100 * 30 / 100, and with 30
        Due.is("a", x.told(0, 1), 60);
        Due.is("b", x.told(1, 1), 90);
        Due.is("second", x.trial(1, 2), -860);
        // -860 * 20 / 100 = -172; * 30 / 100 = -51.6
        Due.is("a", x.told(0, 1), 9);
        Due.is("b was not on", x.told(1, 1), 90);
        Due.is("on a", x.told(0, 2), 2);
        Due.is("on b", x.told(1, 2), 1);
        Due.is("none on", x.trial(0, 3), -600);
        Due.is("trial(4, 0)", x.trial(4, 0), NO);
        Due.is("trial(-1, 0)", x.trial(-1, 0), NO);
        Due.is("trial(LOW, 0)", x.trial(LOW, 0), NO);
        Due.is("trial(FAR, 0)", x.trial(FAR, 0), NO);
        Due.is("trial(0, 4)", x.trial(0, 4), NO);
        Due.is("trial(0, -1)", x.trial(0, -1), NO);
        Due.is("count(7)", x.count(7), 3);
        Due.is("count(1)", x.count(1), 0);
        Due.is("trial(1, 0) without signs", new BellAndDrop().trial(1, 0), NO);
        Due.is("trial(255, 1) with eight", Due.withSigns(0, 0, 0, 0, 0, 0, 0, 0).trial(255, 1), 1000);
    }

    private static void trialCutsStepByStep() {
        BellAndDrop x = Due.withRule("gain 150;fade 4;drop sum;", 1);
        x.worth(3, -77);
        x.pace(33);
        x.goes(1, 3, 55);
        Due.is("surprise", x.trial(1, 3), -77);
        // -77 * 30 / 100 = -23; * 33 / 100 = -7; * 55 / 100 = -3; * 150 / 100 = -4
        Due.is("strength", x.told(0, 1), -4);
    }

    private static void trialByTheRule() {
        BellAndDrop x = Due.withRule("gain strength+sum;fade 0;drop 0;", 0, 0);
        x.worth(1, 2000);
        x.pace(100);
        x.trial(3, 1);
        Due.is("nothing by 0", x.told(0, 1), 0);
        Due.text(x, "gain 100*(worth=2000)*(kind=0)*(trial<4)+day;fade 0;drop 0;");
        x.force(2);
        x.trial(1, 1);
        Due.is("a by the second trial of the day", x.told(0, 1), 400);
        x.trial(2, 2);
        Due.is("b by another worth", x.told(1, 1), 0);
        x.force(1);
        x.trial(2, 1);
        // nothing: strength and sum of b are 0
        Due.is("b", x.told(1, 1), 0);
        x.trial(3, 1);
        // all by what was ahead: sum 400, strength 400 and 0: 1600 * 20 / 100 * (400 bounded of 800, 400) / 100
        Due.is("a by 400 at most", x.told(0, 1), 400 + 320 * 4);
        Due.is("b by sum", x.told(1, 1), 320 * 4);
        x.force(2);
        x.trial(1, 1);
        Due.is("five trials were there: nothing", x.told(0, 1), 1680);
        BellAndDrop y = Due.withRule("gain -5;fade 0;drop 0;", 0);
        y.trial(1, 1);
        Due.is("nothing by less than 0", y.told(0, 1), 0);
    }

    private static void trialAtTheBounds() {
        BellAndDrop x = Due.withRule("gain 400;fade 0;drop sum;", 1, 1, 1, 1, 1, 1, 1, 1);
        x.pace(100);
        x.worth(1, 2000);
        x.trial(255, 1);
        Due.is("strength", x.told(0, 1), 2400);
        x.trial(255, 1);
        // 2000 - 8 * 2400 = -17200; * 1.2 = -20640
        Due.is("strength at the lower bound", x.told(7, 1), -9999);
        Due.is("surprise", x.trial(255, 1), 2000 + 8 * 9999);
        Due.is("strength at the upper bound", x.told(7, 1), 9999);
        Due.is("sum", x.sum(255, 0), 8 * 9999);
        Due.is("drops", x.sum(255, 1), 99);
    }

    private static void sum() {
        BellAndDrop x = Due.withSigns(0, 1, 2);
        x.trial(1, 1);
        x.trial(2, 1);
        x.trial(4, 2);
        // strengths 60, 90, -48
        x.like(0, 1, 33);
        x.like(0, 2, 50);
        x.like(1, 2, 10);
        Due.is("sum of none", x.sum(0, 0), 0);
        Due.is("drops of none", x.sum(0, 1), 0);
        Due.is("sum of a", x.sum(1, 0), 60 + 29 - 24);
        Due.is("sum of b", x.sum(2, 0), 90 + 19 - 4);
        Due.is("sum of c", x.sum(4, 0), -48 + 30 + 9);
        // c is off and adds by each that is on: -24 and -4
        Due.is("sum of a and b", x.sum(3, 0), 60 + 90 - 24 - 4);
        Due.is("sum of all", x.sum(7, 0), 60 + 90 - 48);
        Due.is("drops of a", x.sum(1, 1), 6);
        Due.is("drops of c", x.sum(4, 1), 0);
        Due.is("drops of all", x.sum(7, 1), 10);
        Due.is("sum(8, 0)", x.sum(8, 0), NO);
        Due.is("sum(-1, 0)", x.sum(-1, 0), NO);
        Due.is("sum(1, 2)", x.sum(1, 2), NO);
        Due.is("sum(1, -1)", x.sum(1, -1), NO);
        Due.is("surprise by likes", x.trial(1, 0), -65);
        BellAndDrop y = Due.withRule("gain 100;fade 4;drop strength*10+kind;", 5, 0, 3);
        y.trial(2, 1);
        Due.is("drops of b and c ask b", y.sum(6, 1), 60);
        Due.is("drops of a and b ask a", y.sum(3, 1), 0);
        Due.is("drops of c", y.sum(4, 1), 0);
        BellAndDrop z = Due.withRule("gain 100;fade 4;drop kind*10;", 0, 0, 0, 0, 0, 0, 3, 2);
        Due.is("drops of h", z.sum(128, 1), 2);
        Due.is("drops of g and h", z.sum(192, 1), 3);
    }

    private static void days() {
        BellAndDrop x = Due.withSigns(0, 2);
        Due.is("days(0, 1) without a plan", x.days(0, 1), -2);
        Due.plan(x, "a+b!");
        Due.is("days(0, 0)", x.days(0, 0), -2);
        Due.is("days(0, 51)", x.days(0, 51), -2);
        Due.is("days(1, 1)", x.days(1, 1), -2);
        Due.is("days(-1, 1)", x.days(-1, 1), -2);
        Due.is("days(0, 1)", x.days(0, 1), 1);
        // 60 * 96 / 100, -48 * 94 / 100
        Due.is("a", x.told(0, 1), 57);
        Due.is("b", x.told(1, 1), -45);
        Due.is("count(7)", x.count(7), 2);
        for (int i = 0; i < 7; i++) {
            Due.is("days(0, 50)", x.days(0, 50), 51 + 50 * i);
        }
        Due.is("days(0, 50) beyond", x.days(0, 50), -4);
        Due.is("days(0, 51): BAD comes first", x.days(0, 51), -2);
        Due.is("days(0, 49)", x.days(0, 49), 400);
        Due.is("days(0, 1) beyond", x.days(0, 1), -4);
        Due.is("count(1)", x.count(1), 400);
        Due.is("count(7)", x.count(7), 800);
        Due.is("on", x.told(1, 2), 400);
        Due.is("trial on day 400", x.trial(0, 1), 1000);
        BellAndDrop y = Due.withSigns(0);
        for (int i = 0; i < 8; i++) {
            Due.plan(y, "a+");
        }
        Due.is("days(7, 1)", y.days(7, 1), 1);
        Due.is("days(8, 1)", y.days(8, 1), -2);
    }

    private static void daysByTheRule() {
        // fade by the DAY that ends, gain by the DAY and by the TRIALS that were on it
        BellAndDrop x = Due.withRule("gain 100*(trial=1)+100*day;fade 50*(day=1);drop day*10;", 0);
        Due.plan(x, "a+a+");
        x.pace(100);
        Due.is("drops on day 0", x.sum(1, 1), 0);
        x.days(0, 1);
        // 0, then 200; no fade on day 0
        Due.is("day 0", x.told(0, 1), 200);
        Due.is("drops on day 1", x.sum(1, 1), 1);
        x.days(0, 1);
        // 800 * 0.2 = 160: 360; 640 * 0.2 = 128, by 200: 256: 616; half
        Due.is("day 1", x.told(0, 1), 308);
        BellAndDrop y = Due.withRule("gain 100*(trial=1);fade 0;drop 0;", 0);
        Due.plan(y, "a+a+");
        y.pace(100);
        y.trial(0, 0);
        y.days(0, 1);
        // the trial outside the plan was the first of the day, so the plan's first is the second
        Due.is("trials on the day outside the plan", y.told(0, 1), 200);
        y.days(0, 1);
        Due.is("and none on the next day", y.told(0, 1), 200 + 160);
        BellAndDrop z = Due.withRule("gain 100*(trial=0);fade 0;drop 0;", 0);
        Due.plan(z, "a+a+");
        z.pace(100);
        z.days(0, 2);
        Due.is("the first of each day", z.told(0, 1), 200 + 160);
    }

    private static void rests() {
        BellAndDrop x = Due.withSigns(0, 1);
        Due.plan(x, "-");
        Due.plan(x, "a+");
        Due.is("rests(2, 5)", x.rests(2, 5), -2);
        Due.is("rests(-1, 5)", x.rests(-1, 5), -2);
        Due.is("rests(0, -1)", x.rests(0, -1), -2);
        Due.is("rests(0, 101)", x.rests(0, 101), -2);
        Due.is("nothing changes nothing", x.rests(0, 0), 0);
        Due.is("rests(1, 0)", x.rests(1, 0), -1);
        int found = x.rests(1, 100);
        Due.is("the least number within it", x.rests(1, found), found);
        Due.is("and not within one less", x.rests(1, found - 1), -1);
        Due.is("count(1)", x.count(1), 0);
        Due.is("count(7)", x.count(7), 0);
        Due.is("strength", x.told(0, 1), 0);
        long was = 0;
        int days = 0;
        x.days(1, 1);
        while (x.told(0, 1) != was) {
            was = x.told(0, 1);
            x.days(1, 1);
            days++;
        }
        Due.is("as gone through by days", days, found);
        Due.is("it rests now", x.rests(1, 0), 0);
        BellAndDrop y = Due.withRule("gain 100*(day<402);fade 0;drop 0;", 0);
        Due.plan(y, "-");
        Due.plan(y, "a+");
        for (int i = 0; i < 8; i++) {
            y.days(0, 50);
        }
        Due.is("days behind the last one are gone through in thought", y.rests(1, 100), 2);
        Due.is("count(1)", y.count(1), 400);
    }

    private static void blocked() {
        BellAndDrop x = Due.withSigns(1, 0, 0, 0);
        Due.plan(x, "a+");
        Due.plan(x, "ab+c-");
        Due.plan(x, "abc+abcd-");
        Due.plan(x, "c-");
        Due.plan(x, "b+ab+");
        Due.is("blocked(5)", x.blocked(5), -2);
        Due.is("blocked(-1)", x.blocked(-1), -2);
        Due.is("nothing is told yet", x.blocked(1), 0);
        x.pace(100);
        x.days(0, 50);
        Due.is("a tells it nearly", x.told(0, 1) > 900 ? 1 : 0, 1);
        for (int i = 0; i < 30; i++) {
            x.trial(1, 1);
        }
        // what a lacks is below 5 now: no gain of 20 hundredths of it
        Due.is("a and b gain nothing", x.blocked(1), 3);
        Due.is("d is on in no such trial", x.blocked(2), 7);
        Due.is("no such trial", x.blocked(3), 0);
        Due.is("b alone gains, a does not lose by 4", x.blocked(4) & 2, 0);
        long day = x.count(1);
        long all = x.count(7);
        x.blocked(1);
        Due.is("nothing changes", x.count(1), day);
        Due.is("nothing changes", x.count(7), all);
        BellAndDrop y = Due.withSigns(0, 5);
        y.goes(5, 1, 0);
        Due.plan(y, "ab+");
        Due.plan(y, "ab+b!");
        Due.is("a place does not go with meat", y.blocked(0), 2);
        Due.is("but with shock", y.blocked(1), 0);
        // at the bound a sign still gains, though its strength can't grow
        BellAndDrop z = Due.withRule("gain 400;fade 0;drop sum;", 1, 1, 1, 1, 1, 1, 1, 1);
        z.pace(100);
        for (int i = 0; i < 3; i++) {
            z.trial(255, 1);
        }
        Due.plan(z, "a+");
        Due.is("blocked at the bound", z.blocked(0), 0);
    }

    private static void counted() {
        BellAndDrop x = Due.withSigns(0, 0);
        Due.is("no trials: above", x.counted(0, 1, 0), 0);
        Due.is("no trials: below", x.counted(0, 1, 1), 1);
        x.trial(1, 1);
        x.trial(1, 1);
        x.trial(1, 0);
        x.trial(2, 1);
        x.trial(0, 2);
        x.trial(0, 3);
        x.trial(0, 0);
        // with a: meat 2 of 3; without: 1 of 4: 5/12
        Due.is("a, meat: above", x.counted(0, 1, 0), 5);
        Due.is("a, meat: below", x.counted(0, 1, 1), 12);
        // none: 1 of 3, 1 of 4
        Due.is("a, none: above", x.counted(0, 0, 0), 1);
        Due.is("a, none: below", x.counted(0, 0, 1), 12);
        // shock: 0 of 3, 1 of 4
        Due.is("a, shock: above", x.counted(0, 2, 0), -1);
        Due.is("a, shock: below", x.counted(0, 2, 1), 4);
        // b, meat: 1 of 1, 2 of 6
        Due.is("b, meat: above", x.counted(1, 1, 0), 2);
        Due.is("b, meat: below", x.counted(1, 1, 1), 3);
        x.sign(0);
        // c, meat: never with it, 3 of 7 without
        Due.is("c, meat: above", x.counted(2, 1, 0), -3);
        Due.is("c, meat: below", x.counted(2, 1, 1), 7);
        Due.is("counted(3, 1, 0)", x.counted(3, 1, 0), NO);
        Due.is("counted(-1, 1, 0)", x.counted(-1, 1, 0), NO);
        Due.is("counted(0, 4, 0)", x.counted(0, 4, 0), NO);
        Due.is("counted(0, -1, 0)", x.counted(0, -1, 0), NO);
        Due.is("counted(0, 1, 2)", x.counted(0, 1, 2), NO);
        Due.is("counted(0, 1, -1)", x.counted(0, 1, -1), NO);
        BellAndDrop y = Due.withSigns(0);
        y.trial(1, 1);
        y.trial(1, 1);
        y.trial(1, 3);
        Due.is("always with it: above", y.counted(0, 1, 0), 2);
        Due.is("always with it: below", y.counted(0, 1, 1), 3);
        Due.plan(y, "a+-");
        y.days(0, 50);
        // by days, too: 52 of 53, 0 of 50
        Due.is("by days: above", y.counted(0, 1, 0), 52);
        Due.is("by days: below", y.counted(0, 1, 1), 53);
    }
}
