/**
 * Promises 1 to 18: of each number the last that is taken and the first that is refused, that the refusal is the one
 * that the words name first, and that a refused call changes nothing that later calls show.
 */
public final class BoundsTest extends Twins {
    public static void main(String[] args) {
        newObject();
        sign();
        told();
        toldOfSignsThatCome();
        worth();
        goes();
        like();
        pace();
        feed();
        feedUpToTheLastByte();
        text();
        textFaultEmptiesTheTapeAlone();
        force();
        plan();
        planFaultEmptiesTheTapeAlone();
        planned();
        trial();
        sum();
        days();
        daysUpToTheLast();
        rests();
        restsWithin();
        blocked();
        counted();
        Due.end();
    }

    // Promise 1: "No SIGNS; DAY 0."
    private static void newObject() {
        in("no signs", NEW, x -> x.count(0), 0);
        in("day", NEW, x -> x.count(1), 0);
        out("told(0, 0)", NEW, x -> x.told(0, 0), NO);
        out("taken(0, 0)", NEW, x -> x.taken(0, 0), -11);
        out("like(0, 1, 0)", NEW, x -> x.like(0, 1, 0), BAD);
        out("counted(0, 0, 0)", NEW, x -> x.counted(0, 0, 0), NO);
        out("trial(1, 0)", NEW, x -> x.trial(1, 0), NO);
        in("trial(0, 0)", NEW, x -> x.trial(0, 0), 0);
        out("sum(1, 0)", NEW, x -> x.sum(1, 0), NO);
        out("sum(0, 0)", NEW, x -> x.sum(0, 0), 0);
        out("sum(0, 1)", NEW, x -> x.sum(0, 1), 0);
        out("near(0, 1, 0, 1, 1)", NEW, x -> x.near(0, 1, 0, 1, 1), BAD);
        out("next(0, 1, 0): no set of signs comes ahead of no plan", NEW, x -> x.next(0, 1, 0), BAD);
    }

    // Promise 2: "A SIGN: its number. BAD; FULL."
    private static void sign() {
        in("kind 0", SOME, x -> x.sign(0), 3);
        in("kind 5", SOME, x -> x.sign(5), 3);
        outEach("sign", SOME, v -> x -> x.sign(v), BAD, -1, 6, FAR, LOW);
        in("the first", signs(0), x -> x.sign(1), 0);
        in("the eighth", signs(7), x -> x.sign(5), 7);
        out("the ninth", signs(8), x -> x.sign(5), FULL);
        out("the ninth of all there is", ALL, x -> x.sign(0), FULL);
        outEach("the ninth: BAD comes first", ALL, v -> x -> x.sign(v), BAD, -1, 6);
    }

    // Promise 3: "0 KIND, 1 STRENGTH, 2 how often it was ON, 3 LOUD, 4 FADES. NO: none such."
    private static void told() {
        long[] first = new long[5];
        long[] last = new long[5];
        BellAndDrop x = Twins.behind(SOME);
        for (int what = 0; what < 5; what++) {
            first[what] = x.told(0, what);
            last[what] = x.told(2, what);
        }
        // a was on by 3, ab+ of two days, 5, b+a? of a day, 1
        Due.is("kind of the first", first[0], 1);
        Due.is("on of the first", first[2], 6);
        Due.is("loud of the first", first[3], 30);
        // 3 and DAY 3: 6, half
        Due.is("fades of the first", first[4], 3);
        Due.is("kind of the last", last[0], 4);
        Due.is("on of the last", last[2], 3);
        Due.is("loud of the last", last[3], 30);
        outEach("told of sign", SOME, v -> y -> y.told(v, 0), NO, -1, 3, FAR, LOW);
        outEach("told what", SOME, v -> y -> y.told(0, v), NO, -1, 5, FAR, LOW);
        outEach("told of sign", ALL, v -> y -> y.told(v, 2), NO, -1, 8);
        for (int what = 0; what < 5; what++) {
            int asked = what;
            out("told changes nothing", SOME, y -> y.told(0, asked), first[what]);
        }
    }

    private static void toldOfSignsThatCome() {
        for (int n = 0; n < 8; n++) {
            int last = n;
            in("sign " + n + " is not there", signs(n), x -> x.told(last, 1), NO);
            in("sign " + n + " is there", signs(n + 1), x -> x.told(last, 1), 0);
            in("and never was on", signs(n + 1), x -> x.told(last, 2), 0);
        }
    }

    // Promise 4: "WORTH of an END (1 .. 3): what it was. -9999: none such."; "-2000 .. 2000"
    private static void worth() {
        in("end 1", SOME, x -> x.worth(1, 2000), 1000);
        in("end 2", SOME, x -> x.worth(2, 2000), -700);
        in("end 3", SOME, x -> x.worth(3, -2000), -600);
        outEach("worth of end", SOME, v -> x -> x.worth(v, 0), -9999, 0, 4, -1, FAR, LOW);
        for (int end = 1; end < 4; end++) {
            int e = end;
            in("worth -2000 of " + e, SOME, x -> x.worth(e, -2000) * 0 + x.worth(e, 0), -2000);
            in("worth 2000 of " + e, SOME, x -> x.worth(e, 2000) * 0 + x.worth(e, 0), 2000);
            outEach("worth of " + e, SOME, v -> x -> x.worth(e, v), -9999, -2001, 2001, FAR, LOW);
        }
        in("surprise by 2000", NEW, x -> x.worth(1, 2000) * 0 + x.trial(0, 1), 2000);
        in("surprise by -2000", NEW, x -> x.worth(1, -2000) * 0 + x.trial(0, 1), -2000);
        in("that of none is always 0", NEW, x -> x.worth(0, 5) * 0 + x.trial(0, 0), 0);
    }

    // Promise 5: "GOES of a KIND and an END: what it was. BAD."; "0 .. 100"
    private static void goes() {
        in("the first kind, the first end", SOME, x -> x.goes(0, 0, 0), 100);
        in("the last kind, the last end", SOME, x -> x.goes(5, 3, 0), 100);
        in("what was put", SOME, x -> x.goes(1, 1, 0), 80);
        in("goes 0", SOME, x -> x.goes(2, 2, 0) * 0 + x.goes(2, 2, 1), 0);
        in("goes 100", SOME, x -> x.goes(1, 1, 100) * 0 + x.goes(1, 1, 1), 100);
        outEach("goes of kind", SOME, v -> x -> x.goes(v, 1, 50), BAD, -1, 6, FAR, LOW);
        outEach("goes of end", SOME, v -> x -> x.goes(1, v, 50), BAD, -1, 4, FAR, LOW);
        outEach("goes", SOME, v -> x -> x.goes(1, 1, v), BAD, -1, 101, FAR, LOW);
        in("by 0 nothing is gained", signs(1), x -> x.goes(0, 1, 0) * 0 + x.trial(1, 1) * 0 + x.told(0, 1), 0);
        in("by 1 nearly nothing", signs(1), x -> x.goes(0, 1, 2) * 0 + x.trial(1, 1) * 0 + x.told(0, 1), 1);
    }

    // Promise 6: "LIKE of two SIGNS: what it was. BAD: SIGNS (alike, too), v."; "0 .. 100", "0 at first"
    private static void like() {
        in("at first", SOME, x -> x.like(0, 2, 100), 0);
        in("what was put", SOME, x -> x.like(1, 0, 100), 40);
        in("like 100", SOME, x -> x.like(0, 1, 100) * 0 + x.like(0, 1, 0), 100);
        in("like 0", SOME, x -> x.like(0, 1, 0) * 0 + x.like(0, 1, 100), 0);
        outEach("like", SOME, v -> x -> x.like(0, 1, v), BAD, -1, 101, FAR, LOW);
        outEach("like of a", SOME, v -> x -> x.like(v, 1, 5), BAD, -1, 3, FAR, LOW);
        outEach("like of b", SOME, v -> x -> x.like(0, v, 5), BAD, -1, 3, FAR, LOW);
        outEach("like of one and itself", SOME, v -> x -> x.like(v, v, 100), BAD, 0, 1, 2, 3, -1);
        in("the last two of eight", ALL, x -> x.like(6, 7, 1), 0);
        outEach("like of eight", ALL, v -> x -> x.like(v, 7, 1), BAD, 7, 8);
    }

    // Promise 7: "PACE: what it was. BAD."; "1 .. 100; 30 at first"
    private static void pace() {
        in("at first", NEW, x -> x.pace(1), 30);
        in("pace 1", SOME, x -> x.pace(1) * 0 + x.count(8), 1);
        in("pace 100", SOME, x -> x.pace(100) * 0 + x.count(8), 100);
        in("what it was", SOME, x -> x.pace(100), 35);
        outEach("pace", SOME, v -> x -> x.pace(v), BAD, 0, 101, -1, FAR, LOW);
    }

    // Promise 8: "BAD: n is not 1 .. 8. FULL."
    private static void feed() {
        in("1 byte", SOME, x -> x.feed(1, -1L), 4);
        in("8 bytes", SOME, x -> x.feed(8, -1L), 11);
        outEach("feed", SOME, v -> x -> x.feed(v, 0x2D2D2D2DL), BAD, 0, 9, -1, FAR, LOW);
        outEach("feed a full tape", ALL, v -> x -> x.feed(v, 0L), FULL, 1, 8);
        outEach("feed a full tape: BAD comes first", ALL, v -> x -> x.feed(v, 0L), BAD, 0, 9);
        // "the n lowest bytes of a number, the lowest first": a+b-c!d?, with a sign bit above
        for (int n = 1; n <= 8; n++) {
            BellAndDrop x = Twins.behind(signs(4));
            x.feed(n, 0x3F64_2163_2D62_2B61L);
            Due.is("plan of " + n + " bytes", x.plan(), n % 2 == 0 ? 0 : -100 - n);
            Due.is("its trials", x.planned(0, -1, 0), n % 2 == 0 ? n / 2 : NONE);
        }
    }

    /** "160 bytes at most": what has no room is refused whole, what has just room is taken. */
    private static void feedUpToTheLastByte() {
        for (int left = 0; left <= 8; left++) {
            int there = 160 - left;
            Twins.Way way = x -> Due.feed(x, "-".repeat(there));
            for (int n = 1; n <= 8; n++) {
                int bytes = n;
                if (n <= left) {
                    in(n + " bytes where " + left + " have room", way, x -> x.feed(bytes, 0L), there + n);
                } else {
                    out(n + " bytes where " + left + " have room", way, x -> x.feed(bytes, 0L), FULL);
                }
            }
        }
    }

    private static Twins.Way textsThenTape(int texts, String tape) {
        return x -> {
            x.sign(0);
            for (int i = 1; i < texts; i++) {
                Due.text(x, "gain 1;fade " + i + ";drop 1;");
            }
            Due.feed(x, tape);
        };
    }

    // Promise 9: "FULL (ahead of all): no TEXT more has room (THE TAPE stays)."; "6 TEXTS at most, TEXT 0 with them"
    private static void text() {
        String right = "gain 1;fade 9;drop 1;";
        for (int texts = 1; texts < 6; texts++) {
            in("a text where there are " + texts, textsThenTape(texts, right), x -> x.text(), texts);
        }
        out("a seventh text", textsThenTape(6, right), x -> x.text(), FULL);
        out("a seventh that would be a fault", textsThenTape(6, "oh"), x -> x.text(), FULL);
        out("a seventh of nothing", textsThenTape(6, ""), x -> x.text(), FULL);
        out("a seventh of all the tape", ALL, x -> x.text(), FULL);
        in("the tape stays", textsThenTape(6, right), x -> x.text() * 0 + x.count(4), right.length());
        in("the tape is empty", textsThenTape(5, right), x -> x.text() * 0 + x.count(4), 0);
        in("nothing on the tape", NEW, x -> x.text(), -100);
        in("the last in force", textsThenTape(5, right), x -> x.force(x.text()) * 0 + x.told(0, 4), 9);
    }

    private static void textFaultEmptiesTheTapeAlone() {
        BellAndDrop a = Twins.behind(SOME);
        BellAndDrop b = Twins.behind(SOME);
        // "gai" ends too early for a KEY, so the WORD itself is the fault
        Due.is("gai", a.text(), -100);
        Due.is("empty", a.count(4), 0);
        b.plan();
        Due.is("gai as a plan", b.count(4), 0);
        Due.is("a text behind it", Due.text(a, "gain 2;fade 2;drop 2;"), 3);
        Due.is("and behind that of a plan", Due.text(b, "gain 2;fade 2;drop 2;"), 3);
        Twins.alike("a fault of a text and one of a plan", a, b);
    }

    // Promise 10: "A TEXT is THE RULE: which was. BAD."
    private static void force() {
        in("text 0", SOME, x -> x.force(0), 1);
        in("the same again", SOME, x -> x.force(1), 1);
        in("the last", SOME, x -> x.force(2), 1);
        in("it is the rule", SOME, x -> x.force(2) * 0 + x.count(5), 2);
        outEach("force", SOME, v -> x -> x.force(v), BAD, -1, 3, FAR, LOW);
        in("the last of six", ALL, x -> x.force(5), 0);
        outEach("force", ALL, v -> x -> x.force(v), BAD, -1, 6);
        in("text 0 alone", NEW, x -> x.force(0), 0);
        out("no text but it", NEW, x -> x.force(1), BAD);
    }

    private static Twins.Way plansThenTape(int plans, String tape) {
        return x -> {
            x.sign(0);
            for (int i = 0; i < plans; i++) {
                Due.plan(x, "a+".repeat(i + 1));
            }
            Due.feed(x, tape);
        };
    }

    // Promise 11: "FULL (ahead of all): no PLAN more has room (THE TAPE stays)."; "8 at most, numbered from 0"
    private static void plan() {
        for (int plans = 0; plans < 8; plans++) {
            in("a plan where there are " + plans, plansThenTape(plans, "a?"), x -> x.plan(), plans);
        }
        out("a ninth plan", plansThenTape(8, "a?"), x -> x.plan(), FULL);
        out("a ninth that would be a fault", plansThenTape(8, "oh"), x -> x.plan(), FULL);
        out("a ninth of nothing", plansThenTape(8, ""), x -> x.plan(), FULL);
        out("a ninth of all the tape", ALL, x -> x.plan(), FULL);
        in("the tape stays", plansThenTape(8, "a?"), x -> x.plan() * 0 + x.count(4), 2);
        in("the tape is empty", plansThenTape(7, "a?"), x -> x.plan() * 0 + x.count(4), 0);
        in("nothing on the tape", SOME, x -> x.text() * 0 + x.plan(), -100);
        in("the last goes", plansThenTape(7, "a?"), x -> x.days(x.plan(), 1) * 0 + x.counted(0, 3, 0), 1);
    }

    private static void planFaultEmptiesTheTapeAlone() {
        for (String tape : new String[] {"", "a", "z", "a+a", "aa+", "+".repeat(25)}) {
            BellAndDrop a = Twins.behind(plansThenTape(3, tape));
            Due.is("a fault in " + tape, a.plan() <= -100 ? 1 : 0, 1);
            Twins.alike("a fault in " + tape, a, Twins.behind(plansThenTape(3, "")));
        }
    }

    // Promise 12: "how many TRIALS (i = -1; what does not matter); of the i-th 0 SIGNS (bits), 1 the END. NONE: none such."
    private static void planned() {
        out("how many", SOME, x -> x.planned(0, -1, 0), 3);
        outEach("how many, what", SOME, v -> x -> x.planned(1, -1, v), 2, -1, 2, FAR, LOW);
        out("the first's signs", SOME, x -> x.planned(0, 0, 0), 3);
        out("the first's end", SOME, x -> x.planned(0, 0, 1), 1);
        in("the last", SOME, x -> x.planned(1, 1, 0), 1);
        in("the last's end", SOME, x -> x.planned(1, 1, 1), 3);
        outEach("the i-th", SOME, v -> x -> x.planned(0, v, 0), NONE, -2, 3, 24, FAR, LOW);
        outEach("the i-th of two", SOME, v -> x -> x.planned(1, v, 1), NONE, 2, -2);
        outEach("what", SOME, v -> x -> x.planned(0, 0, v), NONE, -1, 2, FAR, LOW);
        outEach("plan", SOME, v -> x -> x.planned(v, -1, 0), NONE, -1, 2, FAR, LOW);
        outEach("plan of eight", ALL, v -> x -> x.planned(v, 0, 0), NONE, -1, 8);
        in("the last of eight", ALL, x -> x.planned(7, 0, 0), 128);
        in("none at all", NEW, x -> x.planned(0, -1, 0), NONE);
    }

    // Promise 13: "A TRIAL (outside any PLAN): SURPRISE. NO: SIGNS, END."
    private static void trial() {
        for (int n = 0; n <= 8; n++) {
            int beyond = 1 << n;
            in("no sign on of " + n, signs(n), x -> x.trial(0, 3), -600);
            in("all on of " + n, signs(n), x -> x.trial(beyond - 1, 1), 1000);
            outEach("signs of " + n, signs(n), v -> x -> x.trial(v, 1), NO, beyond, -1, FAR, LOW);
        }
        in("end 0", signs(1), x -> x.trial(1, 0), 0);
        in("end 3", signs(1), x -> x.trial(1, 3), -600);
        outEach("trial", SOME, v -> x -> x.trial(1, v), NO, -1, 4, FAR, LOW);
        outEach("trial", ALL, v -> x -> x.trial(v, 0), NO, 256, -1, LOW);
        in("on day 400", ALL, x -> x.trial(0, 2), -800);
    }

    // Promise 14: "SUM (what 0), DROPS (1) of a set of SIGNS now. NO: none such."
    private static void sum() {
        out("sum of no signs", SOME, x -> x.sum(0, 0), 0);
        out("drops of no signs", SOME, x -> x.sum(0, 1), 0);
        for (int n = 0; n <= 8; n++) {
            int beyond = 1 << n;
            in("sum of all of " + n, signs(n), x -> x.sum(beyond - 1, 0), 0);
            in("drops of all of " + n, signs(n), x -> x.sum(beyond - 1, 1), 0);
            outEach("sum of signs of " + n, signs(n), v -> x -> x.sum(v, 0), NO, beyond, -1);
            outEach("drops of signs of " + n, signs(n), v -> x -> x.sum(v, 1), NO, beyond, -1);
        }
        outEach("what", SOME, v -> x -> x.sum(1, v), NO, -1, 2, FAR, LOW);
        outEach("what, of no signs", SOME, v -> x -> x.sum(0, v), NO, -1, 2);
    }

    private static Twins.Way onDay(int day) {
        return x -> {
            x.sign(0);
            Due.plan(x, "a+");
            for (int gone = 0; gone < day; gone += 50) {
                x.days(0, Math.min(50, day - gone));
            }
        };
    }

    // Promise 15: "n DAYS (1 .. 50) by a PLAN: DAY. BAD; FULL: above 400."
    private static void days() {
        in("1 day", SOME, x -> x.days(0, 1), 4);
        in("50 days", SOME, x -> x.days(1, 50), 53);
        outEach("days", SOME, v -> x -> x.days(0, v), BAD, 0, 51, -1, FAR, LOW);
        outEach("days by plan", SOME, v -> x -> x.days(v, 1), BAD, -1, 2, FAR, LOW);
        out("no plan at all", signs(1), x -> x.days(0, 1), BAD);
        outEach("days beyond the last", ALL, v -> x -> x.days(0, v), FULL, 1, 50);
        outEach("days beyond the last: BAD comes first", ALL, v -> x -> x.days(0, v), BAD, 0, 51);
        outEach("days beyond the last: BAD comes first, plan", ALL, v -> x -> x.days(v, 1), BAD, -1, 8);
    }

    // "DAY is 0 at first, 400 at most."
    private static void daysUpToTheLast() {
        in("from 350 on 50", onDay(350), x -> x.days(0, 50), 400);
        out("from 351 on 50", onDay(351), x -> x.days(0, 50), FULL);
        in("from 351 on 49", onDay(351), x -> x.days(0, 49), 400);
        in("from 399 on 1", onDay(399), x -> x.days(0, 1), 400);
        out("from 399 on 2", onDay(399), x -> x.days(0, 2), FULL);
        out("from 400 on 1", onDay(400), x -> x.days(0, 1), FULL);
        in("it is 400 then", onDay(400), x -> x.days(0, 1) * 0 + x.count(1), 400);
        in("400 days went by", onDay(400), x -> x.days(0, 50) * 0 + x.count(7), 400);
    }

    // Promise 16: "RESTS within n DAYS (0 .. 100). NONE: not; BAD."
    private static void rests() {
        in("n 0", onDay(0), x -> x.rests(0, 0), NONE);
        in("n 100, nothing to change", signs(1), x -> Due.plan(x, "-") * 0 + x.rests(0, 100), 0);
        in("n 0, nothing to change", signs(1), x -> Due.plan(x, "-") * 0 + x.rests(0, 0), 0);
        outEach("rests", SOME, v -> x -> x.rests(0, v), BAD, -1, 101, FAR, LOW);
        outEach("rests by plan", SOME, v -> x -> x.rests(v, 5), BAD, -1, 2, FAR, LOW);
        outEach("rests by plan", ALL, v -> x -> x.rests(v, 5), BAD, -1, 8);
    }

    /** Two signs that never come to rest until the rule stops them on that day. */
    private static Twins.Way stoppedOn(int day) {
        return x -> {
            x.sign(1);
            x.sign(1);
            Due.text(x, "gain 400*(day<" + day + ");fade 0;drop 0;");
            x.force(1);
            x.pace(100);
            Due.plan(x, "ab+");
        };
    }

    // "the least number (0 .. n) of DAYS by a PLAN behind which one more leaves each STRENGTH as it was; nothing changes"
    private static void restsWithin() {
        for (int stop : new int[] {0, 1, 7, 99, 100}) {
            out("behind " + stop, stoppedOn(stop), x -> x.rests(0, stop), stop);
            if (stop > 0) {
                out("not within one less than " + stop, stoppedOn(stop), x -> x.rests(0, stop - 1), NONE);
            }
            if (stop < 100) {
                out("within one more than " + stop, stoppedOn(stop), x -> x.rests(0, stop + 1), stop);
            }
        }
        out("behind 101 is not within 100", stoppedOn(101), x -> x.rests(0, 100), NONE);
        in("one day of these went by", stoppedOn(101), x -> x.days(0, 1) * 0 + x.rests(0, 100), 100);
    }

    // Promise 17: "BLOCKED. BAD."
    private static void blocked() {
        outEach("blocked", SOME, v -> x -> x.blocked(v), BAD, -1, 2, FAR, LOW);
        outEach("blocked", ALL, v -> x -> x.blocked(v), BAD, -1, 8);
        out("no plan", signs(2), x -> x.blocked(0), BAD);
        out("blocked changes nothing", SOME, x -> x.blocked(0), 0);
        in("the last plan of eight", ALL, x -> x.blocked(7), 0);
    }

    // Promise 18: "COUNTED: part 0 above, 1 below the line, in lowest terms. NO: none such."
    private static void counted() {
        // meat: with a 4 of 6, without it 1 of 5: 14 of 30
        out("above", SOME, x -> x.counted(0, 1, 0), 7);
        out("below", SOME, x -> x.counted(0, 1, 1), 15);
        outEach("counted of sign", SOME, v -> x -> x.counted(v, 1, 0), NO, -1, 3, FAR, LOW);
        outEach("counted of end", SOME, v -> x -> x.counted(0, v, 0), NO, -1, 4, FAR, LOW);
        outEach("counted part", SOME, v -> x -> x.counted(0, 1, v), NO, -1, 2, FAR, LOW);
        in("the last sign, the last end", ALL, x -> x.counted(7, 3, 0), 0);
        outEach("counted of eight", ALL, v -> x -> x.counted(v, 0, 0), NO, 8, -1);
    }
}
