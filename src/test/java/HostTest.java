/** Promises 27 to 31: sheet, cell, copy, trials, taken. */
public final class HostTest {
    private static final int FAR = Integer.MAX_VALUE, LOW = Integer.MIN_VALUE;

    public static void main(String[] args) {
        sheet();
        sheetIsMadeAnew();
        cell();
        copy();
        copyOfItself();
        trials();
        trialsByNarrowNumbers();
        trialsOutside();
        taken();
        Due.end();
    }

    private static void sheet() {
        BellAndDrop x = Due.withSigns(0);
        Due.is("sheet(-1)", x.sheet(-1, 0, 1), -2);
        Due.is("sheet(4)", x.sheet(4, 0, 1), -2);
        Due.is("sort -2", x.sheet(0, -2, 1), -2);
        Due.is("sort 3", x.sheet(0, 3, 1), -2);
        Due.is("sort 3, n below 0: BAD comes first", x.sheet(0, 3, -1), -2);
        Due.is("n 41", x.sheet(0, 0, 41), -2);
        Due.is("n FAR", x.sheet(0, 0, FAR), -2);
        Due.is("n -1", x.sheet(0, 0, -1), -14);
        Due.is("n LOW", x.sheet(0, 2, LOW), -14);
        Due.is("it is missing still", x.cell(0, 0, 0), -11);
        Due.is("n 40", x.sheet(0, 0, 40), 1);
        Due.is("n 0", x.sheet(1, 1, 0), 1);
        Due.is("sheet 3", x.sheet(3, 2, 1), 1);
        Due.is("item 39", x.cell(0, 39, 1), 1);
        Due.is("item of an empty one", x.cell(1, 0, 1), -12);
        Due.is("refused", x.sheet(0, 1, 41), -2);
        Due.is("so it stays", x.cell(0, 39, 1), 1);
        Due.is("missing, n below 0", x.sheet(0, -1, -5), 1);
        Due.is("missing, n above 40", x.sheet(3, -1, FAR), 1);
        Due.is("it is missing", x.cell(0, 39, 1), -11);
        Due.is("missing in a wrong place", x.sheet(4, -1, 0), -2);
    }

    private static void cell() {
        BellAndDrop x = Due.withSigns(0);
        x.sheet(2, 2, 3);
        Due.is("cell(-1, ..)", x.cell(-1, 0, 0), -2);
        Due.is("cell(4, ..)", x.cell(4, 0, 0), -2);
        Due.is("missing", x.cell(1, -1, 0), -11);
        Due.is("item -1", x.cell(2, -1, 0), -12);
        Due.is("item 3", x.cell(2, 3, 0), -12);
        Due.is("item LOW", x.cell(2, LOW, 0), -12);
        Due.is("item FAR", x.cell(2, FAR, 0), -12);
        Due.is("item 2", x.cell(2, 2, FAR), 1);
        Due.is("item 0", x.cell(2, 0, LOW), 1);
    }

    /** What stands in a row is seen by the trials that come by it: all signs in it of 8 or none. */
    private static long seen(BellAndDrop x, int sheet, int sort, int i) {
        x.image();
        x.trials(sheet, sort, i, 1);
        long came = 0;
        for (int s = 7; s >= 0; s--) {
            came = came * 2 + x.told(s, 2);
        }
        x.back();
        return came;
    }

    private static BellAndDrop withRows(int sort) {
        BellAndDrop x = Due.withSigns(0, 0, 0, 0, 0, 0, 0, 0);
        x.sheet(0, sort, 12);
        x.sheet(1, sort, 8);
        for (int i = 0; i < 12; i++) {
            x.cell(0, i, i % 2 == 0 ? i + 1 : 1);
        }
        return x;
    }

    private static void copy() {
        for (int sort = 0; sort < 3; sort++) {
            BellAndDrop x = withRows(sort);
            Due.is("copy", x.copy(0, 4, 1, 0, 6), 6);
            Due.is("item 0", seen(x, 1, sort, 0), 5);
            Due.is("item 2", seen(x, 1, sort, 2), 7);
            Due.is("item 4", seen(x, 1, sort, 4), 9);
            Due.is("item 6", seen(x, 1, sort, 6), 0);
            Due.is("the row it came from", seen(x, 0, sort, 4), 5);
        }
        BellAndDrop x = withRows(0);
        x.sheet(2, 1, 8);
        Due.is("sheet 4", x.copy(4, 0, 0, 0, 1), -2);
        Due.is("sheet -1", x.copy(-1, 0, 0, 0, 1), -2);
        Due.is("other 4", x.copy(0, 0, 4, 0, 1), -2);
        Due.is("other -1", x.copy(3, 0, -1, 0, 1), -2);
        Due.is("missing", x.copy(3, 0, 0, 0, 1), -11);
        Due.is("other missing, and all else wrong", x.copy(0, -1, 3, -1, -1), -11);
        Due.is("unlike sorts", x.copy(0, 0, 2, 0, 1), -13);
        Due.is("unlike sorts, places outside", x.copy(0, -1, 2, 99, -1), -13);
        Due.is("n below 0", x.copy(0, 0, 1, 0, -1), -12);
        Due.is("i below 0", x.copy(0, -1, 1, 0, 1), -12);
        Due.is("j below 0", x.copy(0, 0, 1, -1, 1), -12);
        Due.is("too many of the one", x.copy(0, 5, 1, 0, 8), -12);
        Due.is("too many for the other", x.copy(0, 0, 1, 1, 8), -12);
        Due.is("far i", x.copy(0, FAR, 1, 0, FAR), -12);
        Due.is("far j", x.copy(0, 0, 1, FAR, 1), -12);
        Due.is("nothing came", seen(x, 1, 0, 0), 0);
        Due.is("none at the ends", x.copy(0, 12, 1, 8, 0), 0);
        Due.is("none behind the end", x.copy(0, 13, 1, 0, 0), -12);
        Due.is("none behind the other's end", x.copy(0, 0, 1, 9, 0), -12);
        Due.is("all", x.copy(1, 0, 0, 4, 8), 8);
    }

    private static void sheetIsMadeAnew() {
        BellAndDrop x = withRows(1);
        x.sheet(0, 1, 12);
        Due.is("all 0", seen(x, 0, 1, 2), 0);
        x.cell(0, 4, 9);
        x.sheet(0, -1, 0);
        x.sheet(0, 2, 12);
        Due.is("all 0 behind a missing one", seen(x, 0, 2, 4), 0);
    }

    private static void copyOfItself() {
        BellAndDrop x = withRows(2);
        Due.is("forth", x.copy(0, 0, 0, 2, 10), 10);
        Due.are("as they were", new long[] {seen(x, 0, 2, 0), seen(x, 0, 2, 2), seen(x, 0, 2, 4), seen(x, 0, 2, 10)}, 1, 1, 3, 9);
        BellAndDrop y = withRows(2);
        Due.is("back", y.copy(0, 2, 0, 0, 10), 10);
        Due.are("as they were", new long[] {seen(y, 0, 2, 0), seen(y, 0, 2, 2), seen(y, 0, 2, 8), seen(y, 0, 2, 10)}, 3, 5, 11, 11);
    }

    private static void trials() {
        BellAndDrop x = Due.withSigns(0, 0);
        x.sheet(0, 1, 8);
        Due.is("sheet 4", x.trials(4, 1, 0, 1), -2);
        Due.is("sheet -1", x.trials(-1, 1, 0, 1), -2);
        Due.is("sort 3", x.trials(0, 3, 0, 1), -2);
        Due.is("sort -1", x.trials(1, -1, 0, 1), -2);
        Due.is("n -1", x.trials(0, 1, 0, -1), -2);
        Due.is("n 21", x.trials(0, 1, 0, 21), -2);
        Due.is("another sort", x.trials(0, 0, 0, 1), -13);
        Due.is("another sort", x.trials(0, 2, -1, 1), -13);
        Due.is("missing", x.trials(1, 0, -1, 1), -11);
        Due.is("missing, n 0", x.trials(1, 2, 0, 0), -11);
        Due.is("n 0", x.trials(0, 1, 0, 0), 0);
        Due.is("count(7)", x.count(7), 0);
        int[] items = {3, 1, 2, 4, 4, 0, 1, 2};
        for (int i = 0; i < 8; i++) {
            x.cell(0, i, items[i]);
        }
        Due.is("two of four", x.trials(0, 1, 0, 4), 2);
        Due.is("count(7)", x.count(7), 2);
        // 60, then -800 - 60 = -860 * 20 / 100 * 30 / 100 = -51
        Due.is("a", x.told(0, 1), 9);
        Due.is("b", x.told(1, 1), 60);
        Due.is("count(1)", x.count(1), 0);
        BellAndDrop y = Due.withSigns(0);
        y.sheet(1, 2, 40);
        Due.is("20 of them", y.trials(1, 2, 0, 20), 20);
        Due.is("count(7)", y.count(7), 20);
    }

    /** Numbers of bytes and shorts are as Java's: 255 is -1 in a byte. */
    private static void trialsByNarrowNumbers() {
        BellAndDrop x = Due.withSigns(0, 0, 0, 0, 0, 0, 0, 0);
        int[] values = {255, 256 + 5, 65536 + 7, 127, 128, -1};
        long[][] due = {{0, 5, 7, 127, 0, 0}, {255, 0, 7, 127, 128, 0}, {255, 0, 0, 127, 128, 0}};
        for (int sort = 0; sort < 3; sort++) {
            x.sheet(0, sort, 2);
            for (int i = 0; i < values.length; i++) {
                x.cell(0, 0, values[i]);
                Due.is("sort " + sort + ", " + values[i], seen(x, 0, sort, 0), due[sort][i]);
            }
        }
    }

    private static void trialsOutside() {
        BellAndDrop x = Due.withSigns(0);
        x.sheet(0, 0, 5);
        Due.is("what stood ahead came", x.trials(0, 0, 0, 3), -12);
        Due.is("two", x.count(7), 2);
        Due.is("from 1, two", x.trials(0, 0, 1, 2), 2);
        Due.is("from 1, three", x.trials(0, 0, 1, 3), -12);
        Due.is("six now", x.count(7), 6);
        Due.is("from 5", x.trials(0, 0, 5, 1), -12);
        Due.is("from 4", x.trials(0, 0, 4, 1), -12);
        Due.is("from -1", x.trials(0, 0, -1, 2), -12);
        Due.is("from FAR", x.trials(0, 0, FAR, 20), -12);
        Due.is("from FAR - 1", x.trials(0, 0, FAR - 1, 20), -12);
        Due.is("from LOW", x.trials(0, 0, LOW, 20), -12);
        Due.is("none from outside", x.trials(0, 0, 99, 0), 0);
        Due.is("count(7)", x.count(7), 6);
    }

    private static void taken() {
        BellAndDrop x = Due.withSigns(0, 1, 2, 3, 4, 5);
        for (int s = 0; s < 6; s++) {
            for (int i = 0; i <= s; i++) {
                x.trial(1 << s, 0);
            }
        }
        String[] under = {"0", "01", "02", "013", "014", "025"};
        for (int s = 0; s < 6; s++) {
            for (int k = 0; k < 6; k++) {
                boolean is = under[s].indexOf('0' + k) >= 0;
                Due.is("taken(" + s + ", " + k + ")", x.taken(s, k), is ? s + 1 : -13);
            }
        }
        Due.is("k 6", x.taken(0, 6), -2);
        Due.is("k -1", x.taken(0, -1), -2);
        Due.is("k 6, no such sign: BAD comes first", x.taken(9, 6), -2);
        Due.is("sign 6", x.taken(6, 0), -11);
        Due.is("sign -1", x.taken(-1, 5), -11);
    }
}
