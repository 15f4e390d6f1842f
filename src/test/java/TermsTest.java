/** What the document's terms say of bounds, cuts and wraps, a test for each such sentence. */
public final class TermsTest extends Twins {
    public static void main(String[] args) {
        letters();
        kindsAreNumbered();
        strengthAtItsBounds();
        strengthFadesFromItsBound();
        quotientsAreCut();
        loud();
        staleLoud();
        fadesByTheRule();
        fadesAreAtMostAHundred();
        sumOfThoseThatAreNotOn();
        gainsAreCutStepByStep();
        gainByTheRule();
        gainsByWhatWasAhead();
        dropsByTheRule();
        dropsOfTheLeast();
        expressionsWrap();
        expressionsAreOneOrZero();
        namesOfATrial();
        namesThatAreZero();
        textZero();
        dayByAPlan();
        blockedByNothing();
        blockedInEach();
        countedWhereThereAreNone();
        watchedFromNothingOn();
        partsBehindWatchedDays();
        imageKeeps();
        imageKeepsNotMore();
        fiveHundredAndTwelveCalls();
        Due.end();
    }

    // "SIGNS (8 at most, numbered from 0, letters a .. h)"
    private static void letters() {
        for (int n = 0; n <= 8; n++) {
            BellAndDrop x = behind(signs(n));
            String all = "abcdefgh".substring(0, n);
            Due.is("all letters of " + n, Due.plan(x, all + "-"), 0);
            Due.is("as bits", x.planned(0, 0, 0), (1 << n) - 1);
            Due.is("one more", Due.plan(x, all + (char) ('a' + n) + "-"), -100 - n);
            Due.is("a byte ahead of a", Due.plan(x, "`-"), -100);
            Due.is("a letter above", Due.plan(x, "A-"), -100);
        }
    }

    // "KIND: 0 SIGN, 1 GOOD, 2 BAD, 3 SLOW, 4 STALE, 5 PLACE"; "STRENGTH 0 at first", "ON (0 at first)"
    private static void kindsAreNumbered() {
        long[] loud = {20, 30, 20, 15, 30, 5};
        long[] fades = {4, 2, 6, 3, 2, 0};
        for (int kind = 0; kind < 6; kind++) {
            BellAndDrop x = new BellAndDrop();
            x.sign(kind);
            long[] got = {x.told(0, 0), x.told(0, 1), x.told(0, 2), x.told(0, 3), x.told(0, 4)};
            Due.are("told of kind " + kind, got, kind, 0, 0, loud[kind], fades[kind]);
        }
    }

    /** b, c and d driven to a bound: up by three trials, down by four; a never was on. */
    private static BellAndDrop driven(int trials) {
        BellAndDrop x = Due.withRule("gain 400;fade 0;drop 0;", 1, 1, 1, 1);
        x.pace(100);
        x.worth(1, 2000);
        for (int i = 0; i < trials; i++) {
            x.trial(14, 1);
        }
        return x;
    }

    private static void drivenOn(int trials, int worth, int gain, int due) {
        BellAndDrop x = driven(trials);
        Due.is("b", x.told(1, 1), trials == 3 ? 9999 : -9999);
        x.worth(1, worth);
        Due.text(x, "gain " + gain + ";fade 0;drop 0;");
        x.force(2);
        x.trial(3, 1);
        Due.is("a by worth " + worth + ", gain " + gain, x.told(0, 1), due);
    }

    // "STRENGTH (thousandths, -9999 .. 9999, else the bound"
    private static void strengthAtItsBounds() {
        // SURPRISE 8354 * 30 / 100 = 2506, * 399 / 100 = 9998
        drivenOn(4, -1645, 399, 9998);
        // 10010 * 30 / 100 = 3003, * 333 / 100 = 9999
        drivenOn(4, 11, 333, 9999);
        // 8334 * 30 / 100 = 2500, * 4 = 10000
        drivenOn(4, -1665, 400, 9999);
        drivenOn(4, 2000, 400, 9999);
        drivenOn(3, 1645, 399, -9998);
        drivenOn(3, -11, 333, -9999);
        drivenOn(3, 1665, 400, -9999);
        drivenOn(3, -2000, 400, -9999);
    }

    private static void strengthFadesFromItsBound() {
        BellAndDrop x = driven(3);
        Due.plan(x, "-");
        x.force(0);
        x.days(0, 1);
        // 9999 * 98 / 100 = 9799.02
        Due.is("from the bound itself", x.told(1, 1), 9799);
        BellAndDrop y = driven(4);
        Due.plan(y, "-");
        y.force(0);
        y.days(0, 1);
        Due.is("from the lower one", y.told(1, 1), -9799);
    }

    // "Quotients are cut toward 0."
    private static void quotientsAreCut() {
        int[] worths = {1, 4, 5, 9, 10, 14, 15};
        int[] gained = {0, 0, 1, 1, 2, 2, 3};
        for (int i = 0; i < worths.length; i++) {
            for (int side = -1; side <= 1; side += 2) {
                BellAndDrop x = behind(signs(1));
                x.pace(100);
                x.worth(1, side * worths[i]);
                x.trial(1, 1);
                Due.is("a fifth of " + side * worths[i], x.told(0, 1), side * gained[i]);
            }
        }
        // -48 of one BAD sign, LIKE 33: -15.84; fade of 6: -45.12; drops -4.8
        BellAndDrop x = Due.withSigns(2, 0);
        Due.plan(x, "-");
        x.trial(1, 2);
        x.like(0, 1, 33);
        Due.is("lent", x.sum(2, 0), -15);
        Due.is("drops", x.sum(1, 1), 0);
        x.days(0, 1);
        Due.is("faded", x.told(0, 1), -45);
    }

    // "SIGN 20; GOOD 10 more than a SIGN; BAD as a SIGN; SLOW half (cut) of a GOOD one's; .. PLACE a fourth of a BAD one's"
    private static void loud() {
        int[] gained = {20, 30, 20, 15, 30, 5};
        for (int kind = 0; kind < 6; kind++) {
            BellAndDrop x = Due.withSigns(kind);
            x.pace(100);
            x.worth(1, 100);
            x.trial(1, 1);
            Due.is("gained by kind " + kind, x.told(0, 1), gained[kind]);
        }
    }

    // "STALE: a GOOD one's less 1 for each 4 times that it was ON (1 at least)"
    private static void staleLoud() {
        BellAndDrop x = Due.withSigns(4);
        for (int on = 0; on < 130; on++) {
            Due.is("loud, on " + on + " times", x.told(0, 3), on < 116 ? 30 - on / 4 : 1);
            x.trial(1, 0);
        }
        BellAndDrop y = Due.withSigns(4);
        y.pace(100);
        for (int i = 0; i < 4; i++) {
            y.trial(1, 0);
        }
        y.trial(1, 1);
        Due.is("by 29 the fifth time", y.told(0, 1), 290);
        Due.is("others do not grow dull", Twins.behind(ALL).told(3, 3), 15);
    }

    // "SIGN: what fade of THE RULE says of it (0 .. 100, else the bound); GOOD half of a SIGN's; .."
    private static void fadesByTheRule() {
        String[] said = {"-9999", "-2", "-1", "0", "1", "2", "3", "50", "99", "100", "101", "9999", "9999*9999"};
        int[] sign = {0, 0, 0, 0, 1, 2, 3, 50, 99, 100, 100, 100, 100};
        for (int i = 0; i < said.length; i++) {
            BellAndDrop x = Due.withRule("gain 0;fade " + said[i] + ";drop 0;", 0, 1, 2, 3, 4, 5);
            int s = sign[i];
            long[] got = new long[6];
            for (int kind = 0; kind < 6; kind++) {
                got[kind] = x.told(kind, 4);
            }
            Due.are("fades by " + said[i], got, s, s / 2, Math.min(100, s + 2), s / 2 + 1, s / 2, 0);
        }
    }

    // "(100 at most.)"
    private static void fadesAreAtMostAHundred() {
        int[] said = {97, 98, 99, 100};
        int[] due = {1, 0, 0, 0};
        for (int i = 0; i < said.length; i++) {
            BellAndDrop x = Due.withRule("gain 100;fade " + said[i] + ";drop 0;", 2, 5);
            Due.plan(x, "-");
            x.worth(2, 2000);
            x.trial(3, 2);
            Due.is("strength", x.told(0, 1), 120);
            x.days(0, 1);
            Due.is("what is left by " + said[i] + " and 2", x.told(0, 1), due[i]);
            Due.is("a place does not fade", x.told(1, 1), 30);
        }
    }

    // "of each that isn't, for each that is ON, STRENGTH times LIKE of the two by 100"
    private static void sumOfThoseThatAreNotOn() {
        BellAndDrop x = behind(signs(4));
        x.worth(1, 2000);
        x.trial(1, 1);
        Due.is("a", x.told(0, 1), 120);
        for (int b = 1; b < 4; b++) {
            x.like(0, b, 1);
        }
        // 1.2 by each that is on, cut each by itself
        Due.is("by one", x.sum(2, 0), 1);
        Due.is("by two", x.sum(6, 0), 2);
        Due.is("by three", x.sum(14, 0), 3);
        Due.is("a itself is on: nothing lent", x.sum(15, 0), 120);
        Due.is("none on: nothing lent", x.sum(0, 0), 0);
        x.like(0, 1, 100);
        Due.is("all of it", x.sum(2, 0), 120);
        x.like(0, 1, 0);
        Due.is("none of it", x.sum(2, 0), 0);
        Due.is("surprise by what is lent", x.trial(4, 1), 1999);
    }

    // "(cut step by step, from the left on; ..)"
    private static void gainsAreCutStepByStep() {
        BellAndDrop x = Due.withRule("gain 400;fade 0;drop 0;", 0);
        x.worth(1, 99);
        x.pace(55);
        x.goes(0, 1, 35);
        x.trial(1, 1);
        // 99 * 20 / 100 = 19; * 55 / 100 = 10; * 35 / 100 = 3; * 4 = 12; uncut it would be 15
        Due.is("up", x.told(0, 1), 12);
        BellAndDrop y = Due.withRule("gain 400;fade 0;drop 0;", 0);
        y.worth(1, -99);
        y.pace(55);
        y.goes(0, 1, 35);
        y.trial(1, 1);
        Due.is("down", y.told(0, 1), -12);
    }

    // "gain of THE RULE (of it; 0 .. 400 hundredths, else the bound)"
    private static void gainByTheRule() {
        String[] said = {"-9999*9999", "-1", "0", "1", "99", "100", "399", "400", "401", "9999", "9999*9999"};
        int[] due = {0, 0, 0, 4, 396, 400, 1596, 1600, 1600, 1600, 1600};
        for (int i = 0; i < said.length; i++) {
            BellAndDrop x = Due.withRule("gain " + said[i] + ";fade 0;drop 0;", 0);
            x.worth(1, 2000);
            x.pace(100);
            x.trial(1, 1);
            Due.is("gained by " + said[i], x.told(0, 1), due[i]);
            Due.is("on by " + said[i], x.told(0, 2), 1);
        }
    }

    // "all by what was ahead of the TRIAL"; "then it was ON once more"
    private static void gainsByWhatWasAhead() {
        BellAndDrop x = Due.withRule("gain sum+strength+kind*trial;fade 0;drop 0;", 4, 4);
        Due.text(x, "gain 100;fade 0;drop 0;");
        x.force(2);
        for (int i = 0; i < 3; i++) {
            x.trial(3, 0);
        }
        x.worth(1, 1000);
        x.pace(100);
        // on 3 times: loud is 30 in the fourth still
        x.trial(3, 1);
        Due.is("a", x.told(0, 1), 300);
        Due.is("b, by the same surprise", x.told(1, 1), 300);
        Due.is("the second surprise", x.trial(3, 1), 400);
        // 400 * 29 / 100 = 116
        Due.is("a", x.told(0, 1), 416);
        Due.is("b", x.told(1, 1), 416);
        x.force(1);
        x.worth(1, 932);
        // 100 * 29 / 100 = 29, by 400 at most
        Due.is("the third", x.trial(3, 1), 100);
        Due.is("a", x.told(0, 1), 416 + 116);
        Due.is("b", x.told(1, 1), 416 + 116);
    }

    // "DROPS .. by 10 (cut; 0 .. 99, else the bound); of no SIGNS 0"
    private static void dropsByTheRule() {
        String[] said = {"-9999*9999", "-10", "-9", "0", "9", "10", "19", "20", "989", "990", "999", "1000", "9999*9999"};
        int[] due = {0, 0, 0, 0, 0, 1, 1, 2, 98, 99, 99, 99, 99};
        for (int i = 0; i < said.length; i++) {
            BellAndDrop x = Due.withRule("gain 100;fade 4;drop " + said[i] + ";", 0, 0);
            Due.is("drops by " + said[i], x.sum(1, 1), due[i]);
            Due.is("drops of two by " + said[i], x.sum(3, 1), due[i]);
            Due.is("drops of none by " + said[i], x.sum(0, 1), 0);
        }
    }

    // "what drop of THE RULE says of the least SIGN of the set (sum being SUM of the set)"
    private static void dropsOfTheLeast() {
        BellAndDrop x = Due.withRule("gain 100;fade 4;drop kind*100+(sum=60)*10;", 0, 1, 2, 3, 4, 5, 4, 3);
        x.trial(1, 1);
        int[] kinds = {0, 1, 2, 3, 4, 5, 4, 3};
        for (int set = 1; set < 256; set++) {
            int least = Integer.numberOfTrailingZeros(set);
            Due.is("drops of " + set, x.sum(set, 1), kinds[least] * 10 + (least == 0 ? 1 : 0));
        }
    }

    /** Looked at through DROPS, from 50 on so that what is below 0 is seen, too. */
    private static void says(String e, int due) {
        Due.is(e, Due.withRule("gain 100;fade 0;drop 500+(" + e + ")*10;", 0).sum(1, 1), 50 + due);
    }

    // "An E is an int (32 bits, wrapping)"
    private static void expressionsWrap() {
        String most = "(9999*9999*21+9999*4790+8416)";
        says("0<" + most, 1);
        says("0<" + most + "+1", 0);
        says(most + "+1<0", 1);
        says("-" + most + "-1<0", 1);
        says("-" + most + "-2<0", 0);
        says("-" + most + "-2=" + most, 1);
        says(most + "+1=-" + most + "-1", 1);
        // the least number less its sign is itself
        says("-(" + most + "+1)=" + most + "+1", 1);
        says(most + "*2=-2", 1);
        says(most + "*" + most + "=1", 1);
        // 9999 * 9999 * 43 = 4299140043, less 2 to the 32nd: 4172747
        says("9999*9999*43=9999*417+3164", 1);
        // what is beyond a bound is so only behind the wrap
        Due.is("drops by the most", Due.withRule("gain 0;fade 0;drop " + most + ";", 0).sum(1, 1), 99);
        Due.is("drops by one more", Due.withRule("gain 0;fade 0;drop " + most + "+1;", 0).sum(1, 1), 0);
        Due.is("fades by the most", Due.withRule("gain 0;fade " + most + ";drop 0;", 0).told(0, 4), 100);
        Due.is("fades by one more", Due.withRule("gain 0;fade " + most + "+1;drop 0;", 0).told(0, 4), 0);
    }

    // "of or, and, not, <, = 1 or 0 (what is not 0 is true)"
    private static void expressionsAreOneOrZero() {
        String[] values = {"-9999", "-1", "0", "1", "2", "9999"};
        int[] numbers = {-9999, -1, 0, 1, 2, 9999};
        for (int a = 0; a < 6; a++) {
            says("not " + values[a], numbers[a] == 0 ? 1 : 0);
            says("not not " + values[a], numbers[a] == 0 ? 0 : 1);
            for (int b = 0; b < 6; b++) {
                boolean either = numbers[a] != 0 || numbers[b] != 0;
                boolean both = numbers[a] != 0 && numbers[b] != 0;
                says(values[a] + " or " + values[b], either ? 1 : 0);
                says(values[a] + " and " + values[b], both ? 1 : 0);
                says(values[a] + "<" + values[b], numbers[a] < numbers[b] ? 1 : 0);
                says(values[a] + "=" + values[b], numbers[a] == numbers[b] ? 1 : 0);
            }
        }
    }

    // "strength; sum: SUM; worth: WORTH of the END; kind; day: DAY; trial: how many TRIALS there were till then on the DAY"
    private static void namesOfATrial() {
        String[] e = {"strength=60", "sum=150", "worth=2000", "kind=1", "day=1", "trial=2"};
        for (int i = 0; i < 6; i++) {
            BellAndDrop x = Due.withSigns(0, 1);
            Due.plan(x, "-");
            Due.text(x, "gain 100*(" + e[i] + ");fade 0;drop 0;");
            x.days(0, 1);
            x.trial(1, 1);
            x.trial(2, 1);
            x.worth(3, 2000);
            x.force(1);
            x.pace(100);
            x.trial(3, 3);
            // 2000 - 150 = 1850: 370 by 20, 555 by 30; only b is of kind 1, only a has 60
            Due.is("a by " + e[i], x.told(0, 1), 60 + (i == 3 ? 0 : 370));
            Due.is("b by " + e[i], x.told(1, 1), 90 + (i == 0 ? 0 : 555));
        }
    }

    // "worth: .. (0 in fade, drop) .. trial: .. (0 in fade, drop; sum is 0 in fade)"
    private static void namesThatAreZero() {
        BellAndDrop x = Due.withRule("gain 100;fade 50+worth*9+trial*9+sum*9;drop 500+worth*9+trial*9;", 0);
        Due.plan(x, "a+a+");
        x.worth(1, 2000);
        x.trial(1, 1);
        Due.is("fades behind a trial", x.told(0, 4), 50);
        Due.is("drops behind a trial", x.sum(1, 1), 50);
        x.days(0, 1);
        // 120, 232, 337: half
        Due.is("fades as a day goes", x.told(0, 1), 168);
        Due.is("drops by sum", Due.withRule("gain 100;fade 0;drop sum+10;", 0).sum(1, 1), 1);
        BellAndDrop y = Due.withRule("gain 100;fade strength+kind+day;drop strength+kind*10+day*100;", 2);
        Due.plan(y, "-");
        y.trial(1, 1);
        Due.is("fades by strength and kind", y.told(0, 4), 64);
        Due.is("drops by strength and kind", y.sum(1, 1), 8);
        y.days(0, 1);
        // 60 * 36 / 100 = 21; 21 + 2 + 1 and 2 more
        Due.is("fades by day, too", y.told(0, 4), 26);
        Due.is("drops by day, too", y.sum(1, 1), 14);
    }

    // "TEXT 0, at first THE RULE, is: gain 100 ; fade 4 ; drop sum ;"
    private static void textZero() {
        BellAndDrop x = Due.withSigns(0, 0);
        BellAndDrop y = Due.withRule("gain 100 ; fade 4 ; drop sum ;", 0, 0);
        y.force(0);
        BellAndDrop z = Due.withRule("gain 100 ; fade 4 ; drop sum ;", 0, 0);
        for (BellAndDrop w : new BellAndDrop[] {x, y, z}) {
            Due.plan(w, "ab+a!");
            w.days(0, 9);
            w.trial(3, 1);
        }
        for (int s = 0; s < 2; s++) {
            Due.is("strength by text 0 again", y.told(s, 1), x.told(s, 1));
            Due.is("strength by its words", z.told(s, 1), x.told(s, 1));
            Due.is("fades by its words", z.told(s, 4), x.told(s, 4));
            Due.is("drops by its words", z.sum(1 << s, 1), x.sum(1 << s, 1));
        }
        Due.is("it is text 0", x.count(5), 0);
        Due.is("one text", x.count(3), 1);
    }

    // "its TRIALS one by one, then each SIGN's STRENGTH times (100 less FADES) by 100; DAY is 1 more"
    private static void dayByAPlan() {
        BellAndDrop x = Due.withRule("gain 100;fade 100*(day=2);drop day*10;", 0, 0);
        Due.plan(x, "-");
        x.trial(2, 1);
        x.days(0, 2);
        Due.is("b on day 2", x.told(1, 1), 60);
        Due.is("drops by day 2", x.sum(1, 1), 2);
        x.days(0, 1);
        Due.is("b, though it was not on, behind day 2", x.told(1, 1), 0);
        Due.is("drops by day 3", x.sum(1, 1), 3);
        // a sign of 100 FADES loses all, of 0 nothing
        BellAndDrop y = Due.withRule("gain 100;fade 100;drop 0;", 0, 5);
        Due.plan(y, "ab+");
        y.days(0, 1);
        Due.is("a lost all", y.told(0, 1), 0);
        Due.is("b nothing", y.told(1, 1), 15);
        Due.is("on stays", y.told(0, 2), 1);
    }

    // "and gain nothing (0) in each such TRIAL"
    private static void blockedByNothing() {
        int[] worths = {-10, -5, -4, 0, 4, 5, 10};
        for (int worth : worths) {
            BellAndDrop x = behind(signs(1));
            x.pace(100);
            x.worth(1, worth);
            Due.plan(x, "a+");
            // a fifth of it
            Due.is("blocked by worth " + worth, x.blocked(0), worth / 5 == 0 ? 1 : 0);
        }
    }

    private static int blockedBy60(int meat, String plan) {
        BellAndDrop x = behind(signs(2));
        x.trial(1, 1);
        x.worth(1, meat);
        Due.plan(x, plan);
        return x.blocked(0);
    }

    // "SIGNS (bits) that are ON in some TRIAL of it that ends otherwise than by none, .. as a DAY by it would go"
    private static void blockedInEach() {
        Due.is("what is told gains nothing", blockedBy60(60, "a+"), 1);
        Due.is("by none it is not asked", blockedBy60(60, "a-"), 0);
        // -60: -12, -3: 57 is left
        Due.is("what it loses by none does not count", blockedBy60(57, "a-a+"), 1);
        Due.is("what is ahead of it does", blockedBy60(300, "a-a+"), 0);
        Due.is("it gains by shock", blockedBy60(60, "a+a!"), 0);
        Due.is("it gains by shock, ahead", blockedBy60(60, "a!a+"), 0);
        Due.is("by each end", blockedBy60(60, "a?"), 0);
        Due.is("another since a tells it", blockedBy60(60, "ab+"), 3);
        Due.is("alone it would gain", blockedBy60(60, "ab+b+"), 1);
        Due.is("by none it would, too", blockedBy60(60, "ab+b-"), 3);
        Due.is("on in no trial", blockedBy60(60, "+-!?"), 0);
    }

    private static void fraction(BellAndDrop x, int sign, int end, long above, long below) {
        Due.is("above, sign " + sign + ", end " + end, x.counted(sign, end, 0), above);
        Due.is("below, sign " + sign + ", end " + end, x.counted(sign, end, 1), below);
    }

    // "(each part 0, if there are none such): one fraction", "in lowest terms"
    private static void countedWhereThereAreNone() {
        BellAndDrop x = behind(signs(2));
        for (int end = 0; end < 4; end++) {
            fraction(x, 0, end, 0, 1);
        }
        x.trial(1, 1);
        fraction(x, 0, 1, 1, 1);
        fraction(x, 1, 1, -1, 1);
        fraction(x, 0, 0, 0, 1);
        x.trial(1, 2);
        fraction(x, 0, 1, 1, 2);
        fraction(x, 1, 2, -1, 2);
        x.trial(2, 1);
        // 1 of 2 less 1 of 1; 1 of 1 less 1 of 2
        fraction(x, 0, 1, -1, 2);
        fraction(x, 1, 1, 1, 2);
        x.trial(0, 1);
        x.trial(0, 2);
        x.trial(0, 2);
        // 1 of 2 less 2 of 4
        fraction(x, 0, 1, 0, 1);
        fraction(x, 0, 2, 0, 1);
        // 1 of 1 less 2 of 5
        fraction(x, 1, 1, 3, 5);
        BellAndDrop most = behind(ALL);
        // h: 50 of 51 by meat, 350 of 350 without it
        fraction(most, 7, 1, -1, 51);
        fraction(most, 7, 2, 1, 51);
    }

    // "from no STRENGTHS on (0, ON 0, DAY 0) by these PLANS, one by one"
    private static void watchedFromNothingOn() {
        BellAndDrop x = Due.withRule("gain 100;fade 0;drop (day=1)*(trial=0)*strength;", 4);
        Due.plan(x, "a+");
        x.watched(0, 1, 30);
        Due.is("by 100: 300", x.lets(0, 1), 100);
        for (int i = 0; i < 8; i++) {
            x.trial(1, 2);
        }
        x.days(0, 3);
        x.rests(0, 9);
        x.blocked(0);
        Due.is("still", x.lets(0, 1), 100);
        x.watched(0, 1, 0);
        Due.is("behind two days DAY is 2", x.lets(0, 0), 1);
        x.watched(0, 1, 1);
        Due.is("behind three it is 3", x.thrownOut(0), 2);
        // by 29, not by 30, the fifth time that it is ON
        BellAndDrop y = Due.withRule("gain 100*(trial=4);fade 0;drop sum;", 4);
        Due.plan(y, "a+a+a+a+a+");
        y.watched(0, 1, 29);
        Due.is("by 100: 290", y.lets(0, 1), 100);
        Due.is("by it alone", y.lets(0, 0), 1);
    }

    // "DROPS of it behind all WATCHED DAYS and one by the PLAN"
    private static void partsBehindWatchedDays() {
        BellAndDrop x = Due.withRule("gain 100;fade 0;drop (day=3)*sum;", 0);
        Due.plan(x, "-");
        Due.plan(x, "a+");
        Due.is("behind one day nothing", x.next(0, 1, 1), 0);
        x.watched(1, 1, 0);
        Due.is("behind two nothing", x.next(0, 1, 1), 0);
        x.watched(0, 1, 0);
        // 10, 200 behind the first; 19, 360 behind another
        Due.is("behind three", x.next(0, 1, 1), 36 - 1);
        Due.is("by a+", x.next(0, 1, 0), 1);
        x.watched(0, 1, 0);
        Due.is("behind four nothing", x.next(99, 1, 1), 0);
    }

    // "AN IMAGE keeps DAY, of all SIGNS STRENGTH and how often they were ON, all that is COUNTED, PACE, THE RULE"
    private static void imageKeeps() {
        BellAndDrop x = behind(SOME);
        x.image();
        x.trial(7, 2);
        x.days(0, 9);
        x.pace(1);
        x.force(2);
        Due.is("back", x.back(), 3);
        BellAndDrop y = behind(SOME);
        y.image();
        alike("all that it keeps", x, y);
    }

    private static void imageKeepsNotMore() {
        BellAndDrop x = behind(SOME);
        BellAndDrop y = behind(SOME);
        x.image();
        x.days(0, 9);
        for (BellAndDrop w : new BellAndDrop[] {x, y}) {
            w.worth(1, 77);
            w.goes(4, 2, 7);
            w.like(1, 2, 70);
            w.watched(0, 4, 44);
            w.cell(0, 0, 3);
            Due.feed(w, "n 9;fade 9;drop 9;");
            w.text();
            Due.plan(w, "a+c!");
            Due.feed(w, "b");
        }
        x.back();
        y.image();
        alike("what it does not keep", x, y);
    }

    // "An object is used for at most 512 calls after it has been made"
    private static void fiveHundredAndTwelveCalls() {
        BellAndDrop x = new BellAndDrop();
        x.sign(4);
        for (int i = 2; i < 512; i++) {
            x.trial(1, 1);
        }
        Due.is("the 512th", x.told(0, 2), 510);
    }
}
