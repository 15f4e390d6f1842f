/** Promises 27 to 31 and SHEETS at their bounds, as BoundsTest has those ahead of them. */
public final class HostBoundsTest extends Twins {
    private static final int NOTHING = -11, OUTSIDE = -12, OTHER_SORT = -13, BELOW_ZERO = -14;

    public static void main(String[] args) {
        missingAtFirst();
        sheet();
        sheetInOrder();
        sheetAnew();
        cell();
        cellInOrder();
        cellOfEachSort();
        copy();
        copyInOrder();
        copyPlaces();
        trials();
        trialsInOrder();
        trialsPlaces();
        trialsLeftOut();
        taken();
        takenOfEachKind();
        Due.end();
    }

    // "SHEETS 0 .. 3 are rows of numbers, or missing (as all are at first)"
    private static void missingAtFirst() {
        for (int s = 0; s < 4; s++) {
            int sheet = s;
            out("cell of " + s, NEW, x -> x.cell(sheet, 0, 1), NOTHING);
            out("copy from " + s, NEW, x -> x.copy(sheet, 0, 3 - sheet, 0, 0), NOTHING);
            out("trials by " + s, NEW, x -> x.trials(sheet, sheet % 3, 0, 1), NOTHING);
            in("sheet " + s, NEW, x -> x.sheet(sheet, 0, 1), 1);
        }
    }

    // Promise 27: "a row of n of a sort, all 0, or missing (sort -1: n does not matter): 1. BAD: no such SHEET, sort; n above 40; -14."
    private static void sheet() {
        for (int sort = 0; sort < 3; sort++) {
            int of = sort;
            in("n 0", SOME, x -> x.sheet(0, of, 0), 1);
            in("n 40", SOME, x -> x.sheet(3, of, 40), 1);
            outEach("n", SOME, v -> x -> x.sheet(0, of, v), BAD, 41, 42, FAR);
            outEach("n", SOME, v -> x -> x.sheet(0, of, v), BELOW_ZERO, -1, -2, LOW);
            in("item 39", SOME, x -> x.sheet(3, of, 40) * 0 + x.cell(3, 39, 1), 1);
            in("no item 40", SOME, x -> x.sheet(3, of, 40) * 0 + x.cell(3, 40, 1), OUTSIDE);
            in("one of none", SOME, x -> x.sheet(3, of, 0) * 0 + x.cell(3, 0, 1), OUTSIDE);
        }
        outEach("sheet", SOME, v -> x -> x.sheet(v, 0, 5), BAD, -1, 4, FAR, LOW);
        outEach("sort", SOME, v -> x -> x.sheet(0, v, 5), BAD, -2, 3, FAR, LOW);
        for (int n : new int[] {-1, 0, 40, 41, FAR, LOW}) {
            in("missing, n " + n, SOME, x -> x.sheet(0, -1, n), 1);
            in("it is missing", SOME, x -> x.sheet(0, -1, n) * 0 + x.cell(0, 0, 1), NOTHING);
            out("missing as it was, n " + n, SOME, x -> x.sheet(3, -1, n), 1);
        }
    }

    private static void sheetInOrder() {
        outEach("no such sheet, n below 0", SOME, v -> x -> x.sheet(v, 0, -1), BAD, -1, 4);
        outEach("no such sort, n below 0", SOME, v -> x -> x.sheet(0, v, -1), BAD, -2, 3);
        outEach("missing, no such sheet", SOME, v -> x -> x.sheet(v, -1, 0), BAD, -1, 4);
        outEach("missing, no such sheet, n below 0", SOME, v -> x -> x.sheet(v, -1, -1), BAD, -1, 4);
    }

    private static void sheetAnew() {
        for (int sort = 0; sort < 3; sort++) {
            for (int was = 0; was < 3; was++) {
                BellAndDrop x = behind(SOME);
                row(x, 0, was, 7, 3, 7, 3, 7, 3, 7, 3);
                x.sheet(0, sort, 8);
                x.worth(3, 5);
                Due.is("trials of a row that is new", x.trials(0, sort, 0, 4), 4);
                Due.is("all none of none", x.told(0, 2), 6);
                Due.is("by another sort", x.trials(0, (sort + 1) % 3, 0, 4), OTHER_SORT);
            }
        }
    }

    // Promise 28: "Item i of a SHEET becomes v: 1. BAD: no such SHEET; -11; -12."
    private static void cell() {
        in("item 0", SOME, x -> x.cell(0, 0, 7), 1);
        in("item 9 of 10", SOME, x -> x.cell(0, 9, 7), 1);
        outEach("item", SOME, v -> x -> x.cell(0, v, 7), OUTSIDE, -1, 10, FAR, LOW);
        outEach("item of shorts", SOME, v -> x -> x.cell(1, v, 7), OUTSIDE, -1, 8);
        outEach("item of ints", SOME, v -> x -> x.cell(2, v, 7), OUTSIDE, -1, 6);
        outEach("sheet", SOME, v -> x -> x.cell(v, 0, 7), BAD, -1, 4, FAR, LOW);
        outEach("a missing one's item", SOME, v -> x -> x.cell(3, v, 7), NOTHING, 0, 39);
        in("any number", SOME, x -> x.cell(2, 5, LOW), 1);
    }

    private static void cellInOrder() {
        outEach("no such sheet, item outside", SOME, v -> x -> x.cell(v, -1, 7), BAD, -1, 4);
        outEach("missing, item outside", SOME, v -> x -> x.cell(3, v, 7), NOTHING, -1, 40, FAR, LOW);
    }

    /** Whether a number in a row is the set of this many, as the trial by it shows. */
    private static void shows(int sort, int number, int set) {
        BellAndDrop x = behind(signs(8));
        row(x, 0, sort, number, 1);
        int came = x.trials(0, sort, 0, 1);
        Due.is("sort " + sort + ": a trial by " + number, came, set < 0 ? 0 : 1);
        for (int s = 0; s < 8; s++) {
            Due.is("sort " + sort + ": sign " + s + " by " + number, x.told(s, 2), set < 0 ? 0 : set >> s & 1);
        }
    }

    // "(of bytes, shorts its lowest 8, 16 bits)"; rows are of Java's numbers, so the highest of these is a sign
    private static void cellOfEachSort() {
        int[] numbers = {0, 1, 127, 128, 255, 256, 257, -1, -128, -129, -255, -256, 32767, 32768, 65535, 65536, 65537, -65535, FAR, LOW};
        int[] bytes = {0, 1, 127, -1, -1, 0, 1, -1, -1, 127, 1, 0, -1, 0, -1, 0, 1, 1, -1, 0};
        int[] shorts = {0, 1, 127, 128, 255, -1, -1, -1, -1, -1, -1, -1, -1, -1, -1, 0, 1, 1, -1, 0};
        int[] ints = {0, 1, 127, 128, 255, -1, -1, -1, -1, -1, -1, -1, -1, -1, -1, -1, -1, -1, -1, -1};
        for (int i = 0; i < numbers.length; i++) {
            shows(0, numbers[i], bytes[i]);
            shows(1, numbers[i], shorts[i]);
            shows(2, numbers[i], ints[i]);
        }
    }

    /** Two rows of bytes, one of 10 and one of 6 items. */
    private static void rows(BellAndDrop x) {
        some(x);
        row(x, 3, 0, 1, 3, 2, 3, 4, 3);
    }

    // Promise 29: "n numbers of a SHEET, from item i on, come to another one's item j on (as they were): n."
    private static void copy() {
        in("none", HostBoundsTest::rows, x -> x.copy(0, 0, 3, 0, 0), 0);
        in("one", HostBoundsTest::rows, x -> x.copy(0, 9, 3, 5, 1), 1);
        in("all that have room", HostBoundsTest::rows, x -> x.copy(0, 4, 3, 0, 6), 6);
        in("all there are", HostBoundsTest::rows, x -> x.copy(3, 0, 0, 4, 6), 6);
        out("none changes nothing", HostBoundsTest::rows, x -> x.copy(0, 10, 3, 6, 0), 0);
        out("all to its own place", HostBoundsTest::rows, x -> x.copy(0, 0, 0, 0, 10), 10);
        for (int n = 0; n <= 3; n++) {
            BellAndDrop x = behind(HostBoundsTest::rows);
            BellAndDrop y = behind(HostBoundsTest::rows);
            Due.is("copy of " + 2 * n, x.copy(0, 2, 3, 0, 2 * n), 2 * n);
            int[] from = {2, 2, 4, 3, 3, 0};
            for (int i = 0; i < 2 * n; i++) {
                y.cell(3, i, from[i]);
            }
            alike("copy of " + 2 * n + " and as many cells", x, y);
        }
        for (int forth = 0; forth < 2; forth++) {
            BellAndDrop x = behind(HostBoundsTest::rows);
            BellAndDrop y = behind(HostBoundsTest::rows);
            x.copy(0, forth == 0 ? 0 : 2, 0, forth == 0 ? 2 : 0, 8);
            int[] due = forth == 0 ? new int[] {1, 1, 1, 1, 2, 2, 4, 3, 3, 0} : new int[] {2, 2, 4, 3, 3, 0, 7, 1, 7, 1};
            for (int i = 0; i < 10; i++) {
                y.cell(0, i, due[i]);
            }
            alike("within one row, as they were", x, y);
        }
    }

    // "BAD: no such SHEET; -11; -13: they are of unlike sorts; -12 (also with n below 0)"
    private static void copyInOrder() {
        for (int place : new int[] {0, -1, 99}) {
            outEach("sheet", SOME, v -> x -> x.copy(v, place, 0, 0, 1), BAD, -1, 4, FAR, LOW);
            outEach("other", SOME, v -> x -> x.copy(0, 0, v, place, 1), BAD, -1, 4, FAR, LOW);
            outEach("missing, no such other", SOME, v -> x -> x.copy(3, place, v, 0, 1), BAD, -1, 4);
            outEach("missing other, no such sheet", SOME, v -> x -> x.copy(v, place, 3, 0, 1), BAD, -1, 4);
            outEach("missing", SOME, v -> x -> x.copy(3, place, v, place, place), NOTHING, 0, 1, 2, 3);
            outEach("other missing", SOME, v -> x -> x.copy(v, place, 3, place, place), NOTHING, 0, 1, 2, 3);
            out("bytes to shorts", SOME, x -> x.copy(0, place, 1, place, place), OTHER_SORT);
            out("shorts to ints", SOME, x -> x.copy(1, place, 2, place, 1), OTHER_SORT);
            out("ints to bytes", SOME, x -> x.copy(2, 0, 0, place, 1), OTHER_SORT);
            out("none of unlike sorts", SOME, x -> x.copy(2, place, 1, 0, 0), OTHER_SORT);
        }
    }

    private static void copyPlaces() {
        Way rows = HostBoundsTest::rows;
        outEach("n", rows, v -> x -> x.copy(0, 0, 3, 0, v), OUTSIDE, -1, 7, 11, FAR, LOW);
        outEach("n from the last on", rows, v -> x -> x.copy(0, 9, 3, 0, v), OUTSIDE, -1, 2, FAR, LOW);
        outEach("n behind the last", rows, v -> x -> x.copy(0, 10, 3, 0, v), OUTSIDE, -1, 1, FAR);
        outEach("i", rows, v -> x -> x.copy(0, v, 3, 0, 1), OUTSIDE, -1, 10, FAR, LOW);
        outEach("j", rows, v -> x -> x.copy(0, 0, 3, v, 1), OUTSIDE, -1, 6, FAR, LOW);
        outEach("i, none", rows, v -> x -> x.copy(0, v, 3, 0, 0), OUTSIDE, -1, 11, FAR, LOW);
        outEach("j, none", rows, v -> x -> x.copy(0, 0, 3, v, 0), OUTSIDE, -1, 7, FAR, LOW);
        outEach("i and n beyond an int", rows, v -> x -> x.copy(0, v, 3, 0, v), OUTSIDE, FAR, FAR - 1, 1 << 30);
        outEach("j and n beyond an int", rows, v -> x -> x.copy(0, 0, 3, v, v), OUTSIDE, FAR, FAR - 1, 1 << 30);
        outEach("within one row", rows, v -> x -> x.copy(0, v, 0, 0, 5), OUTSIDE, -1, 6);
        in("within one row", rows, x -> x.copy(0, 5, 0, 0, 5), 5);
    }

    // Promise 30: "from one on, two by two (as of trial()), n of them (0 .. 20): how many came"
    private static void trials() {
        outEach("n", SOME, v -> x -> x.trials(0, 0, 0, v), BAD, -1, 21, FAR, LOW);
        outEach("sort", SOME, v -> x -> x.trials(0, v, 0, 1), BAD, -1, 3, FAR, LOW);
        outEach("sheet", SOME, v -> x -> x.trials(v, 0, 0, 1), BAD, -1, 4, FAR, LOW);
        for (int sort = 0; sort < 3; sort++) {
            int of = sort;
            out("none", SOME, x -> x.trials(of, of, 0, 0), 0);
            in("one", SOME, x -> x.trials(of, of, 0, 1), 1);
            Way longest = x -> x.sheet(3, of, 40);
            in("20 of 40 items", longest, x -> x.trials(3, of, 0, 20), 20);
            in("20 came", longest, x -> x.trials(3, of, 0, 20) * 0 + x.count(7), 20);
            out("21 of 40 items", longest, x -> x.trials(3, of, 0, 21), BAD);
        }
        BellAndDrop x = behind(SOME);
        BellAndDrop y = behind(SOME);
        Due.is("five", x.trials(0, 0, 0, 5), 5);
        int[] items = {1, 1, 2, 2, 4, 3, 3, 0, 7, 1};
        for (int i = 0; i < 10; i += 2) {
            y.trial(items[i], items[i + 1]);
        }
        alike("trials by a row and by trial()", x, y);
    }

    // "BAD: no such SHEET, sort, n; -13; -11; -12"
    private static void trialsInOrder() {
        for (int from : new int[] {0, -1, 99}) {
            outEach("n, another sort", SOME, v -> x -> x.trials(0, 1, from, v), BAD, -1, 21);
            outEach("n, missing", SOME, v -> x -> x.trials(3, 1, from, v), BAD, -1, 21);
            outEach("sort, missing", SOME, v -> x -> x.trials(3, v, from, 1), BAD, -1, 3);
            outEach("bytes for another sort", SOME, v -> x -> x.trials(0, v, from, 1), OTHER_SORT, 1, 2);
            outEach("shorts for another sort", SOME, v -> x -> x.trials(1, v, from, 0), OTHER_SORT, 0, 2);
            outEach("ints for another sort", SOME, v -> x -> x.trials(2, v, from, 20), OTHER_SORT, 0, 1);
            // what is missing is of no sort, so it may be taken for any
            outEach("missing, taken for any sort", SOME, v -> x -> x.trials(3, v, from, 1), NOTHING, 0, 1, 2);
            outEach("missing, none asked", SOME, v -> x -> x.trials(3, v, from, 0), NOTHING, 0, 1, 2);
        }
    }

    // "-12: what stood ahead came"
    private static void trialsPlaces() {
        outEach("from", SOME, v -> x -> x.trials(0, 0, v, 1), OUTSIDE, -1, -2, 9, 10, FAR, FAR - 1, LOW);
        in("the last two", SOME, x -> x.trials(0, 0, 8, 1), 1);
        for (int from = 0; from <= 10; from++) {
            for (int n = 0; n <= 7; n++) {
                int whole = Math.min(n, (10 - from) / 2);
                BellAndDrop x = behind(HostBoundsTest::ones);
                Due.is("from " + from + ", " + n, x.trials(0, 0, from, n), whole < n ? OUTSIDE : n);
                Due.is("what stood ahead came", x.count(7), whole);
                Due.is("and nothing else", x.told(0, 2), whole);
            }
        }
        // no place is asked of a row of none if none are asked
        in("none of an empty row", x -> x.sheet(0, 2, 0), x -> x.trials(0, 2, 0, 0), 0);
        in("one of an empty row", x -> x.sheet(0, 2, 0), x -> x.trials(0, 2, 0, 1), OUTSIDE);
        in("one of a row of one", x -> x.sheet(0, 2, 1), x -> x.trials(0, 2, 0, 1), OUTSIDE);
    }

    private static void ones(BellAndDrop x) {
        x.sign(0);
        row(x, 0, 0, 1, 1, 1, 1, 1, 1, 1, 1, 1, 1);
    }

    // "(others are left out)"
    private static void trialsLeftOut() {
        int[][] pairs = {{0, 0}, {0, 3}, {7, 0}, {7, 3}, {8, 0}, {-1, 0}, {0, 4}, {0, -1}, {FAR, 0}, {LOW, 1}, {1, FAR}, {1, LOW}, {8, 4}};
        for (int i = 0; i < pairs.length; i++) {
            boolean right = i < 4;
            BellAndDrop x = behind(signs(3));
            row(x, 1, 2, 1, 1, pairs[i][0], pairs[i][1], 2, 2);
            Due.is("pair " + i, x.trials(1, 2, 0, 3), right ? 3 : 2);
            Due.is("those behind it come", x.told(1, 2) >= 1 ? 1 : 0, 1);
            Due.is("so many came", x.count(7), right ? 3 : 2);
        }
    }

    // Promise 31: "BAD: k; -11: no such SIGN; -13."
    private static void taken() {
        outEach("k", SOME, v -> x -> x.taken(0, v), BAD, -1, 6, FAR, LOW);
        outEach("k, no such sign", SOME, v -> x -> x.taken(3, v), BAD, -1, 6);
        outEach("sign", SOME, v -> x -> x.taken(v, 0), NOTHING, -1, 3, FAR, LOW);
        outEach("sign, whatever k is", SOME, v -> x -> x.taken(3, v), NOTHING, 0, 1, 2, 3, 4, 5);
        out("the first", SOME, x -> x.taken(0, 1), 6);
        out("the last", SOME, x -> x.taken(2, 4), 3);
        out("of another kind", SOME, x -> x.taken(0, 5), OTHER_SORT);
        in("the last of eight", ALL, x -> x.taken(7, 1), 51);
    }

    // "A SIGN taken for one of KIND k, or one under that one (also by others between)"
    private static void takenOfEachKind() {
        int[] above = {0b000001, 0b000011, 0b000101, 0b001011, 0b010011, 0b100101};
        for (int kind = 0; kind < 6; kind++) {
            for (int k = 0; k < 6; k++) {
                int of = kind;
                int asked = k;
                boolean is = (above[kind] >> k & 1) == 1;
                out("kind " + kind + " for " + k, x -> x.sign(of), x -> x.taken(0, asked), is ? 0 : OTHER_SORT);
            }
        }
    }
}
