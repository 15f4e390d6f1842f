import java.util.Arrays;

/** Signs that foretell ends, plans of days, and what can be told from days that were watched. */
public final class BellAndDrop {
    public static final int NONE = -1, BAD = -2, STATE = -3, FULL = -4;
    public static final long NO = -4611686018427387904L;

    private static final int NOTHING = -11, OUTSIDE = -12, OTHER_SORT = -13, BELOW_ZERO = -14;
    private static final int NO_WORTH = -9999;
    private static final int FAULT_BASE = -100;

    private static final int MOST_SIGNS = 8, MOST_PLANS = 8, MOST_TEXTS = 6;
    private static final int MOST_TRIALS = 24, MOST_DAYS = 400, MOST_WATCHED = 20;
    private static final int TAPE_SIZE = 160, SHEETS = 4, SHEET_SIZE = 40;
    private static final int KINDS = 6, ENDS = 4, NAMES = 6, SORTS = 3;
    private static final int STRENGTH_BOUND = 9999, WORTH_BOUND = 2000;
    private static final int PACE_STEP = 5, LIKE_STEP = 5, MOST_SEEN = 99;

    private static final int KIND_GOOD = 1, KIND_BAD = 2, KIND_SLOW = 3, KIND_STALE = 4, KIND_PLACE = 5;
    /** The KIND that a KIND stands under; none for the first. */
    private static final int[] UNDER = {-1, 0, 0, 1, 1, 2};

    private static final int PART_GAIN = 0, PART_FADE = 1, PART_DROP = 2, PARTS = 3;

    private final World world;
    private final Mind now;
    private final Mind kept;
    /** Days that are only thought through; what it holds outlives no call. */
    private final Mind dream;
    private final Tape tape;
    private final TextReader textReader;
    private final PlanReader planReader;
    private final Watch watch;
    private final Sheet[] sheets;
    /** How many SIGNS THE IMAGE knows; NONE while there is no image. */
    private int imageSigns;

    public BellAndDrop() {
        world = new World();
        now = new Mind(world);
        kept = new Mind(world);
        dream = new Mind(world);
        tape = new Tape();
        textReader = new TextReader();
        planReader = new PlanReader();
        watch = new Watch();
        sheets = new Sheet[SHEETS];
        for (int i = 0; i < SHEETS; i++) {
            sheets[i] = new Sheet();
        }
        imageSigns = NONE;
    }

    // ---- signs, ends

    public int sign(int kind) {
        if (!within(kind, 0, KINDS - 1)) {
            return BAD;
        }
        if (world.signs >= MOST_SIGNS) {
            return FULL;
        }
        world.kinds[world.signs] = kind;
        world.signs++;
        return world.signs - 1;
    }

    public long told(int sign, int what) {
        if (!world.hasSign(sign)) {
            return NO;
        }
        switch (what) {
            case 0: return world.kinds[sign];
            case 1: return now.strength[sign];
            case 2: return now.on[sign];
            case 3: return now.loudOf(sign);
            case 4: return now.fadesOf(sign);
            default: return NO;
        }
    }

    public int worth(int end, int v) {
        if (!within(end, 1, ENDS - 1) || !within(v, -WORTH_BOUND, WORTH_BOUND)) {
            return NO_WORTH;
        }
        int was = world.worths[end];
        world.worths[end] = v;
        return was;
    }

    public int goes(int kind, int end, int v) {
        if (!within(kind, 0, KINDS - 1) || !isEnd(end) || !within(v, 0, 100)) {
            return BAD;
        }
        int place = kind * ENDS + end;
        int was = world.goesWith[place];
        world.goesWith[place] = v;
        return was;
    }

    public int like(int a, int b, int v) {
        if (!world.areTwoSigns(a, b) || !within(v, 0, 100)) {
            return BAD;
        }
        int was = world.likeOf(a, b);
        world.setLike(a, b, v);
        return was;
    }

    public int pace(int v) {
        if (!within(v, 1, 100)) {
            return BAD;
        }
        int was = now.pace;
        now.pace = v;
        return was;
    }

    // ---- texts, plans

    public int feed(int n, long bytes) {
        if (!within(n, 1, 8)) {
            return BAD;
        }
        if (tape.size + n > TAPE_SIZE) {
            return FULL;
        }
        tape.take(n, bytes);
        return tape.size;
    }

    public int text() {
        if (world.texts >= MOST_TEXTS) {
            return FULL;
        }
        Text read = textReader.read(tape);
        tape.size = 0;
        if (read == null) {
            return FAULT_BASE - textReader.fault;
        }
        world.textRow[world.texts] = read;
        world.texts++;
        return world.texts - 1;
    }

    public int force(int text) {
        if (!within(text, 0, world.texts - 1)) {
            return BAD;
        }
        int was = now.rule;
        now.rule = text;
        return was;
    }

    public int plan() {
        if (world.plans >= MOST_PLANS) {
            return FULL;
        }
        Plan read = planReader.read(tape, world.signs);
        tape.size = 0;
        if (read == null) {
            return FAULT_BASE - planReader.fault;
        }
        world.planRow[world.plans] = read;
        world.plans++;
        return world.plans - 1;
    }

    public int planned(int plan, int i, int what) {
        Plan asked = world.planAt(plan);
        if (asked == null) {
            return NONE;
        }
        if (i == -1) {
            return asked.size;
        }
        if (!within(i, 0, asked.size - 1) || !within(what, 0, 1)) {
            return NONE;
        }
        return what == 0 ? asked.sets[i] : asked.ends[i];
    }

    // ---- days

    public long trial(int signs, int end) {
        if (!world.isSet(signs) || !isEnd(end)) {
            return NO;
        }
        return now.goThroughTrial(signs, end);
    }

    public long sum(int signs, int what) {
        if (!world.isSet(signs) || !within(what, 0, 1)) {
            return NO;
        }
        return what == 0 ? now.sumOf(signs) : now.dropsOf(signs);
    }

    public int days(int plan, int n) {
        Plan asked = world.planAt(plan);
        if (asked == null || !within(n, 1, 50)) {
            return BAD;
        }
        if (now.day + n > MOST_DAYS) {
            return FULL;
        }
        for (int i = 0; i < n; i++) {
            now.goThroughDay(asked);
        }
        return now.day;
    }

    public int rests(int plan, int n) {
        Plan asked = world.planAt(plan);
        if (asked == null || !within(n, 0, 100)) {
            return BAD;
        }
        dream.becomeLike(now, MOST_SIGNS);
        for (int i = 0; i <= n; i++) {
            if (dream.staysThroughDay(asked)) {
                return i;
            }
        }
        return NONE;
    }

    public int blocked(int plan) {
        Plan asked = world.planAt(plan);
        if (asked == null) {
            return BAD;
        }
        dream.becomeLike(now, MOST_SIGNS);
        int shown = 0;
        int gaining = 0;
        for (int i = 0; i < asked.size; i++) {
            dream.goThroughTrial(asked.sets[i], asked.ends[i]);
            if (asked.ends[i] != 0) {
                shown |= asked.sets[i];
                gaining |= dream.gainers(asked.sets[i]);
            }
        }
        return shown & ~gaining;
    }

    public long counted(int sign, int end, int part) {
        if (!world.hasSign(sign) || !isEnd(end) || !within(part, 0, 1)) {
            return NO;
        }
        long withIt = now.on[sign];
        long withoutIt = now.allTrials() - withIt;
        long endedWith = now.endedWith[sign * ENDS + end];
        long endedWithout = now.ended[end] - endedWith;
        // where there are no such trials the count above is 0 too, so any divisor leaves that part 0
        long withLine = Math.max(1L, withIt);
        long withoutLine = Math.max(1L, withoutIt);
        long above = endedWith * withoutLine - endedWithout * withLine;
        long below = withLine * withoutLine;
        long common = commonDivisor(Math.abs(above), below);
        return (part == 0 ? above : below) / common;
    }

    // ---- watched days

    public int watched(int plan, int signs, int drops) {
        if (world.planAt(plan) == null || !isSomeSet(signs) || !within(drops, 0, MOST_SEEN)) {
            return BAD;
        }
        if (watch.size >= MOST_WATCHED) {
            return FULL;
        }
        watch.add(plan, signs, drops);
        return watch.size - 1;
    }

    public int lets(int slip, int what) {
        if (!within(slip, 0, MOST_SEEN) || !within(what, 0, 2)) {
            return BAD;
        }
        findPaces(slip);
        if (what == 0) {
            return watch.paces;
        }
        return what == 1 ? watch.leastPace : watch.greatestPace;
    }

    public int thrownOut(int slip) {
        if (!within(slip, 0, MOST_SEEN)) {
            return BAD;
        }
        findPaces(slip);
        return watch.paces > 0 ? NONE : watch.lastOff;
    }

    public int next(int slip, int signs, int what) {
        if (!within(slip, 0, MOST_SEEN) || !isSomeSet(signs) || !within(what, 0, 1)) {
            return BAD;
        }
        if (world.plans == 0) {
            return STATE;
        }
        findPaces(slip);
        if (watch.paces == 0) {
            return STATE;
        }
        findFarthest(signs);
        return what == 0 ? watch.farthestPlan : watch.farthest;
    }

    public int near(int a, int b, int plan, int n, int apart) {
        Plan asked = world.planAt(plan);
        if (!world.areTwoSigns(a, b) || asked == null || !within(n, 1, 20) || !within(apart, 1, 99)) {
            return BAD;
        }
        int was = world.likeOf(a, b);
        int found = NONE;
        for (int v = 100; v >= 0 && found == NONE; v -= LIKE_STEP) {
            world.setLike(a, b, v);
            if (dropsApart(a, b, asked, n) >= apart) {
                found = v;
            }
        }
        world.setLike(a, b, was);
        return found;
    }

    public int image() {
        kept.becomeLike(now, MOST_SIGNS);
        imageSigns = world.signs;
        return now.day;
    }

    public int back() {
        if (imageSigns == NONE) {
            return STATE;
        }
        now.becomeLike(kept, imageSigns);
        return now.day;
    }

    public int count(int what) {
        switch (what) {
            case 0: return world.signs;
            case 1: return now.day;
            case 2: return world.plans;
            case 3: return world.texts;
            case 4: return tape.size;
            case 5: return now.rule;
            case 6: return watch.size;
            case 7: return now.allTrials();
            case 8: return now.pace;
            default: return BAD;
        }
    }

    // ---- the host

    public int sheet(int sheet, int sort, int n) {
        if (!isSheet(sheet) || !within(sort, -1, SORTS - 1)) {
            return BAD;
        }
        if (sort != Sheet.MISSING && n > SHEET_SIZE) {
            return BAD;
        }
        if (sort != Sheet.MISSING && n < 0) {
            return BELOW_ZERO;
        }
        sheets[sheet].become(sort, sort == Sheet.MISSING ? 0 : n);
        return 1;
    }

    public int cell(int sheet, int i, int v) {
        if (!isSheet(sheet)) {
            return BAD;
        }
        Sheet row = sheets[sheet];
        if (row.isMissing()) {
            return NOTHING;
        }
        if (!row.has(i)) {
            return OUTSIDE;
        }
        row.put(i, v);
        return 1;
    }

    public int copy(int sheet, int i, int other, int j, int n) {
        if (!isSheet(sheet) || !isSheet(other)) {
            return BAD;
        }
        Sheet from = sheets[sheet];
        Sheet to = sheets[other];
        if (from.isMissing() || to.isMissing()) {
            return NOTHING;
        }
        if (from.sort != to.sort) {
            return OTHER_SORT;
        }
        if (!from.hasRun(i, n) || !to.hasRun(j, n)) {
            return OUTSIDE;
        }
        System.arraycopy(from.items, i, to.items, j, n);
        return n;
    }

    public int trials(int sheet, int sort, int from, int n) {
        if (!isSheet(sheet) || !within(sort, 0, SORTS - 1) || !within(n, 0, 20)) {
            return BAD;
        }
        Sheet row = sheets[sheet];
        if (row.isMissing()) {
            return NOTHING;
        }
        if (row.sort != sort) {
            return OTHER_SORT;
        }
        int came = 0;
        for (int k = 0; k < n; k++) {
            if (!row.hasRun(from, 2 * k + 2)) {
                return OUTSIDE;
            }
            int set = row.items[from + 2 * k];
            int end = row.items[from + 2 * k + 1];
            if (world.isSet(set) && isEnd(end)) {
                now.goThroughTrial(set, end);
                came++;
            }
        }
        return came;
    }

    public int taken(int sign, int k) {
        if (!within(k, 0, KINDS - 1)) {
            return BAD;
        }
        if (!world.hasSign(sign)) {
            return NOTHING;
        }
        return isUnder(world.kinds[sign], k) ? now.on[sign] : OTHER_SORT;
    }

    // ---- helpers

    private static boolean within(int v, int least, int greatest) {
        return v >= least && v <= greatest;
    }

    private static int bounded(int v, int least, int greatest) {
        if (v < least) {
            return least;
        }
        return v > greatest ? greatest : v;
    }

    private static boolean isEnd(int end) {
        return within(end, 0, ENDS - 1);
    }

    private static boolean isSheet(int sheet) {
        return within(sheet, 0, SHEETS - 1);
    }

    private static boolean isOn(int set, int sign) {
        return (set >> sign & 1) == 1;
    }

    /** The least SIGN of a set that has some. */
    private static int leastOf(int set) {
        int least = 0;
        while (least < MOST_SIGNS - 1 && !isOn(set, least)) {
            least++;
        }
        return least;
    }

    private boolean isSomeSet(int signs) {
        return signs != 0 && world.isSet(signs);
    }

    private static boolean isUnder(int kind, int above) {
        int at = kind;
        for (int i = 0; i < KINDS && at >= 0 && at != above; i++) {
            at = UNDER[at];
        }
        return at == above;
    }

    /** Of two numbers, none below 0; 1 at least, as what is answered divides. */
    private static long commonDivisor(long a, long b) {
        long greater = b;
        long less = a;
        for (int i = 0; i < 200 && less != 0; i++) {
            long rest = greater % less;
            greater = less;
            less = rest;
        }
        return Math.max(1L, greater);
    }

    /** Which PACES the WATCHED DAYS let, and the last WATCHED DAY that threw one out. */
    private void findPaces(int slip) {
        watch.forgetPaces();
        for (int pace = PACE_STEP; pace <= 100; pace += PACE_STEP) {
            int off = firstOff(pace, slip);
            if (off == NONE) {
                watch.addPace(pace);
            } else {
                watch.lastOff = Math.max(watch.lastOff, off);
            }
        }
    }

    /** The first WATCHED DAY whose DROPS a PACE misses by more than a slip. */
    private int firstOff(int pace, int slip) {
        dream.startAnew(pace, now.rule);
        for (int i = 0; i < watch.size; i++) {
            dream.goThroughDay(world.planAt(watch.plans[i]));
            if (Math.abs(dream.dropsOf(watch.sets[i]) - watch.drops[i]) > slip) {
                return i;
            }
        }
        return NONE;
    }

    private void findFarthest(int set) {
        watch.farthestPlan = NONE;
        watch.farthest = NONE;
        for (int i = 0; i < world.plans; i++) {
            int least = dropsBehind(watch.leastPace, i, set);
            int greatest = dropsBehind(watch.greatestPace, i, set);
            int apart = Math.abs(greatest - least);
            if (apart > watch.farthest) {
                watch.farthestPlan = i;
                watch.farthest = apart;
            }
        }
    }

    /** DROPS of a set behind all WATCHED DAYS and one DAY by a PLAN. */
    private int dropsBehind(int pace, int plan, int set) {
        dream.startAnew(pace, now.rule);
        for (int i = 0; i < watch.size; i++) {
            dream.goThroughDay(world.planAt(watch.plans[i]));
        }
        dream.goThroughDay(world.planAt(plan));
        return dream.dropsOf(set);
    }

    private int dropsApart(int a, int b, Plan plan, int n) {
        dream.startAnew(now.pace, now.rule);
        for (int i = 0; i < n; i++) {
            dream.goThroughDay(plan);
        }
        return Math.abs(dream.dropsOf(1 << a) - dream.dropsOf(1 << b));
    }

    /** What no DAY changes: SIGNS, ENDS, what goes with what, TEXTS and PLANS. */
    private static final class World {
        int signs;
        int texts;
        int plans;
        final int[] kinds = new int[MOST_SIGNS];
        final int[] worths = {0, 1000, -800, -600};
        final int[] goesWith = new int[KINDS * ENDS];
        final int[] likes = new int[MOST_SIGNS * MOST_SIGNS];
        final Text[] textRow = new Text[MOST_TEXTS];
        final Plan[] planRow = new Plan[MOST_PLANS];
        /** What the NAMES of a TEXT stand for while it is asked. */
        final int[] named = new int[NAMES];
        final int[] stack = new int[TAPE_SIZE];

        World() {
            Arrays.fill(goesWith, 100);
            textRow[0] = new Text(new int[] {100, 4, Text.NAME_SUM}, new int[] {0, 1, 2, 3});
            texts = 1;
        }

        boolean hasSign(int sign) {
            return within(sign, 0, signs - 1);
        }

        boolean areTwoSigns(int a, int b) {
            return hasSign(a) && hasSign(b) && a != b;
        }

        boolean isSet(int set) {
            return within(set, 0, (1 << signs) - 1);
        }

        int likeOf(int a, int b) {
            return likes[a * MOST_SIGNS + b];
        }

        void setLike(int a, int b, int v) {
            likes[a * MOST_SIGNS + b] = v;
            likes[b * MOST_SIGNS + a] = v;
        }

        /** A PLAN by its number; null if there is none such. */
        Plan planAt(int plan) {
            return within(plan, 0, plans - 1) ? planRow[plan] : null;
        }
    }

    /** What DAYS change, and what an image keeps. */
    private static final class Mind {
        private final World world;
        final int[] strength = new int[MOST_SIGNS];
        final int[] on = new int[MOST_SIGNS];
        final int[] endedWith = new int[MOST_SIGNS * ENDS];
        final int[] ended = new int[ENDS];
        /** What each SIGN that was ON gained in the TRIAL that was last. */
        private final int[] gains = new int[MOST_SIGNS];
        private final int[] ahead = new int[MOST_SIGNS];
        int day;
        /** How many TRIALS there were on this DAY. */
        private int today;
        int pace = 30;
        int rule;

        Mind(World world) {
            this.world = world;
        }

        /** Takes over all that an image keeps; STRENGTHS only of so many SIGNS. */
        void becomeLike(Mind other, int signs) {
            System.arraycopy(other.strength, 0, strength, 0, signs);
            System.arraycopy(other.on, 0, on, 0, MOST_SIGNS);
            System.arraycopy(other.endedWith, 0, endedWith, 0, MOST_SIGNS * ENDS);
            System.arraycopy(other.ended, 0, ended, 0, ENDS);
            day = other.day;
            today = other.today;
            pace = other.pace;
            rule = other.rule;
        }

        void startAnew(int newPace, int newRule) {
            Arrays.fill(strength, 0);
            Arrays.fill(on, 0);
            day = 0;
            today = 0;
            pace = newPace;
            rule = newRule;
        }

        int allTrials() {
            return ended[0] + ended[1] + ended[2] + ended[3];
        }

        int loudOf(int sign) {
            int plain = 20;
            int good = plain + 10;
            switch (world.kinds[sign]) {
                case KIND_GOOD: return good;
                case KIND_SLOW: return good / 2;
                case KIND_STALE: return bounded(good - on[sign] / 4, 1, good);
                case KIND_PLACE: return plain / 4;
                default: return plain;
            }
        }

        int fadesOf(int sign) {
            int plain = bounded(says(PART_FADE, sign, 0, 0, 0), 0, 100);
            int good = plain / 2;
            switch (world.kinds[sign]) {
                case KIND_GOOD: return good;
                case KIND_BAD: return bounded(plain + 2, 0, 100);
                case KIND_SLOW: return good + 1;
                case KIND_STALE: return good;
                case KIND_PLACE: return 0;
                default: return plain;
            }
        }

        int sumOf(int set) {
            int sum = 0;
            for (int s = 0; s < world.signs; s++) {
                if (isOn(set, s)) {
                    sum += strength[s] + lentTo(s, set);
                }
            }
            return sum;
        }

        /** What those of the SIGNS that aren't ON add to the SUM, as they are like one that is. */
        private int lentTo(int sign, int set) {
            int lent = 0;
            for (int s = 0; s < world.signs; s++) {
                if (!isOn(set, s)) {
                    lent += strength[s] * world.likes[sign * MOST_SIGNS + s] / 100;
                }
            }
            return lent;
        }

        int dropsOf(int set) {
            if (set == 0) {
                return 0;
            }
            int said = says(PART_DROP, leastOf(set), sumOf(set), 0, 0);
            return bounded(said / 10, 0, MOST_SEEN);
        }

        /** Answers SURPRISE. All gains are reckoned ahead of the first that is added. */
        int goThroughTrial(int set, int end) {
            int sum = sumOf(set);
            int surprise = world.worths[end] - sum;
            for (int s = 0; s < world.signs; s++) {
                if (isOn(set, s)) {
                    int said = says(PART_GAIN, s, sum, world.worths[end], today);
                    gains[s] = gainOf(s, end, surprise, bounded(said, 0, 400));
                }
            }
            for (int s = 0; s < world.signs; s++) {
                if (isOn(set, s)) {
                    strength[s] = bounded(strength[s] + gains[s], -STRENGTH_BOUND, STRENGTH_BOUND);
                    on[s]++;
                    endedWith[s * ENDS + end]++;
                }
            }
            ended[end]++;
            today++;
            return surprise;
        }

        private int gainOf(int sign, int end, int surprise, int byRule) {
            int gain = surprise * loudOf(sign) / 100;
            gain = gain * pace / 100;
            gain = gain * world.goesWith[world.kinds[sign] * ENDS + end] / 100;
            return gain * byRule / 100;
        }

        /** Those of a set that gained something in the TRIAL that was last. */
        int gainers(int set) {
            int found = 0;
            for (int s = 0; s < world.signs; s++) {
                if (isOn(set, s) && gains[s] != 0) {
                    found |= 1 << s;
                }
            }
            return found;
        }

        void goThroughDay(Plan plan) {
            if (plan == null) {
                return;
            }
            for (int i = 0; i < plan.size; i++) {
                goThroughTrial(plan.sets[i], plan.ends[i]);
            }
            for (int s = 0; s < world.signs; s++) {
                strength[s] = strength[s] * (100 - fadesOf(s)) / 100;
            }
            day++;
            today = 0;
        }

        /** Goes through a DAY; true if each STRENGTH is behind it as it was ahead of it. */
        boolean staysThroughDay(Plan plan) {
            System.arraycopy(strength, 0, ahead, 0, MOST_SIGNS);
            goThroughDay(plan);
            for (int s = 0; s < MOST_SIGNS; s++) {
                if (strength[s] != ahead[s]) {
                    return false;
                }
            }
            return true;
        }

        private int says(int part, int sign, int sum, int worth, int trial) {
            int[] named = world.named;
            named[0] = strength[sign];
            named[1] = sum;
            named[2] = worth;
            named[3] = world.kinds[sign];
            named[4] = day;
            named[5] = trial;
            Text text = world.textRow[rule];
            return text == null ? 0 : text.reckon(part, named, world.stack);
        }
    }

    /** A TEXT, each E of it behind one another with operands ahead of what joins them. */
    private static final class Text {
        /** NUMBERS stand for themselves, NAMES are below 0 in their order, what joins is below these. */
        static final int NAME_FIRST = -1, NAME_SUM = -2, NAME_LAST = -NAMES;
        static final int MINUS_ONE = -11, NOT = -12;
        static final int OR = -21, AND = -22, LESS = -23, EQUAL = -24, PLUS = -25, LESS_BY = -26, TIMES = -27;

        private final int[] code;
        /** Where each part begins, and the size behind the last. */
        private final int[] begins;

        Text(int[] code, int[] begins) {
            this.code = code;
            this.begins = begins;
        }

        /** The guards on top hold for whatever the reader wrote; they keep each place inside the stack. */
        int reckon(int part, int[] named, int[] stack) {
            int top = 0;
            for (int at = begins[part]; at < begins[part + 1]; at++) {
                int step = code[at];
                if (step >= NAME_LAST && top < stack.length) {
                    stack[top] = step >= 0 ? step : named[NAME_FIRST - step];
                    top++;
                } else if (step >= NOT && top >= 1) {
                    stack[top - 1] = byOne(step, stack[top - 1]);
                } else if (top >= 2) {
                    top--;
                    stack[top - 1] = byTwo(step, stack[top - 1], stack[top]);
                }
            }
            return stack[0];
        }

        private static int byOne(int step, int a) {
            if (step == MINUS_ONE) {
                return -a;
            }
            return a == 0 ? 1 : 0;
        }

        private static int byTwo(int step, int a, int b) {
            switch (step) {
                case OR: return a != 0 || b != 0 ? 1 : 0;
                case AND: return a != 0 && b != 0 ? 1 : 0;
                case LESS: return a < b ? 1 : 0;
                case EQUAL: return a == b ? 1 : 0;
                case PLUS: return a + b;
                case LESS_BY: return a - b;
                default: return a * b;
            }
        }
    }

    /** TRIALS of a DAY: which SIGNS are ON, and the END. */
    private static final class Plan {
        final int[] sets;
        final int[] ends;
        final int size;

        Plan(int[] sets, int[] ends, int size) {
            this.sets = Arrays.copyOf(sets, size);
            this.ends = Arrays.copyOf(ends, size);
            this.size = size;
        }
    }

    private static final class Tape {
        private final int[] bytes = new int[TAPE_SIZE];
        int size;

        void take(int n, long number) {
            for (int i = 0; i < n && size < TAPE_SIZE; i++) {
                bytes[size] = (int) (number >>> 8 * i & 255);
                size++;
            }
        }

        /** A byte of the tape, NONE outside of it. */
        int byteAt(int place) {
            return place >= 0 && place < size ? bytes[place] : NONE;
        }
    }

    private static final class PlanReader {
        private final int[] sets = new int[MOST_TRIALS];
        private final int[] ends = new int[MOST_TRIALS];
        int fault;

        /** Null if the tape holds no PLAN: fault tells where then. */
        Plan read(Tape tape, int signs) {
            int trials = 0;
            int set = 0;
            for (int at = 0; at < tape.size; at++) {
                int sign = tape.byteAt(at) - 'a';
                int end = endOf(tape.byteAt(at));
                if (trials == MOST_TRIALS) {
                    return refused(at);
                }
                if (within(sign, 0, signs - 1) && !isOn(set, sign)) {
                    set |= 1 << sign;
                } else if (end != NONE) {
                    sets[trials] = set;
                    ends[trials] = end;
                    trials++;
                    set = 0;
                } else {
                    return refused(at);
                }
            }
            if (trials == 0 || set != 0) {
                return refused(tape.size);
            }
            return new Plan(sets, ends, trials);
        }

        private Plan refused(int place) {
            fault = place;
            return null;
        }

        private static int endOf(int letter) {
            switch (letter) {
                case '-': return 0;
                case '+': return 1;
                case '!': return 2;
                case '?': return 3;
                default: return NONE;
            }
        }
    }

    /** Reads a TEXT token by token. Behind a fault no token comes any more, so all that is open ends. */
    private static final class TextReader {
        private static final int MOST_OPEN = 5, MOST_DIGITS = 4;
        // tokens; signs are tokens by their own byte, which is above all of these
        private static final int END = 0, WRONG = 1, NUMBER = 2, NAME = 3;
        private static final int GAIN = 4, FADE = 5, DROP = 6, OR = 7, AND = 8, NOT = 9;
        private static final String SIGNS = "();+-*<=";

        private Tape tape;
        /** The place behind the token that is looked at. */
        private int at;
        private int token;
        private int tokenPlace;
        /** The NUMBER, or the step that a NAME is in the code. */
        private int tokenValue;
        private final int[] code = new int[TAPE_SIZE];
        private int size;
        int fault;

        /** Null if the tape holds no TEXT: fault tells where then. */
        Text read(Tape read) {
            tape = read;
            at = 0;
            size = 0;
            fault = NONE;
            int[] begins = new int[PARTS + 1];
            advance();
            for (int part = 0; part < PARTS; part++) {
                begins[part] = size;
                expect(GAIN + part);
                readOr(0);
                expect(';');
            }
            begins[PARTS] = size;
            if (token != END) {
                refuse();
            }
            return fault == NONE ? new Text(Arrays.copyOf(code, size), begins) : null;
        }

        private void refuse() {
            if (fault == NONE) {
                fault = tokenPlace;
            }
            token = WRONG;
        }

        private void expect(int wanted) {
            if (token == wanted) {
                advance();
            } else {
                refuse();
            }
        }

        private void write(int step) {
            if (size < code.length) {
                code[size] = step;
                size++;
            }
        }

        private void readOr(int open) {
            readAnd(open);
            for (int i = 0; i < TAPE_SIZE && token == OR; i++) {
                advance();
                readAnd(open);
                write(Text.OR);
            }
        }

        private void readAnd(int open) {
            readNot(open);
            for (int i = 0; i < TAPE_SIZE && token == AND; i++) {
                advance();
                readNot(open);
                write(Text.AND);
            }
        }

        private void readNot(int open) {
            if (token == NOT && open < MOST_OPEN) {
                advance();
                readNot(open + 1);
                write(Text.NOT);
                return;
            }
            readSum(open);
            if (token == '<' || token == '=') {
                int step = token == '<' ? Text.LESS : Text.EQUAL;
                advance();
                readSum(open);
                write(step);
            }
        }

        private void readSum(int open) {
            readTerm(open);
            for (int i = 0; i < TAPE_SIZE && (token == '+' || token == '-'); i++) {
                int step = token == '+' ? Text.PLUS : Text.LESS_BY;
                advance();
                readTerm(open);
                write(step);
            }
        }

        private void readTerm(int open) {
            readOne(open);
            for (int i = 0; i < TAPE_SIZE && token == '*'; i++) {
                advance();
                readOne(open);
                write(Text.TIMES);
            }
        }

        private void readOne(int open) {
            if (token == NUMBER || token == NAME) {
                write(tokenValue);
                advance();
            } else if (token == '-' && open < MOST_OPEN) {
                advance();
                readOne(open + 1);
                write(Text.MINUS_ONE);
            } else if (token == '(' && open < MOST_OPEN) {
                advance();
                readOr(open + 1);
                expect(')');
            } else {
                refuse();
            }
        }

        /** Looks at the token behind this one; a byte or word that is none is WRONG and stands nowhere. */
        private void advance() {
            if (fault != NONE) {
                return;
            }
            for (int i = 0; i < TAPE_SIZE && isBlank(tape.byteAt(at)); i++) {
                at++;
            }
            tokenPlace = at;
            int first = tape.byteAt(at);
            if (first == NONE) {
                token = END;
            } else if (isLetter(first)) {
                token = wordToken();
            } else if (isDigit(first)) {
                token = numberToken();
            } else {
                at++;
                token = SIGNS.indexOf((char) first) >= 0 ? first : WRONG;
            }
        }

        private int numberToken() {
            tokenValue = 0;
            for (int i = 0; i < MOST_DIGITS && isDigit(tape.byteAt(at)); i++) {
                tokenValue = tokenValue * 10 + tape.byteAt(at) - '0';
                at++;
            }
            return isDigit(tape.byteAt(at)) ? WRONG : NUMBER;
        }

        private int wordToken() {
            for (int i = 0; i < TAPE_SIZE && isLetter(tape.byteAt(at)); i++) {
                at++;
            }
            for (int name = 0; name < NAMES; name++) {
                if (isWord(nameAt(name))) {
                    tokenValue = Text.NAME_FIRST - name;
                    return NAME;
                }
            }
            for (int key = GAIN; key <= NOT; key++) {
                if (isWord(keyAt(key))) {
                    return key;
                }
            }
            return WRONG;
        }

        private boolean isWord(String word) {
            if (at - tokenPlace != word.length()) {
                return false;
            }
            for (int i = 0; i < word.length(); i++) {
                if (tape.byteAt(tokenPlace + i) != word.charAt(i)) {
                    return false;
                }
            }
            return true;
        }

        private static String nameAt(int name) {
            switch (name) {
                case 0: return "strength";
                case 1: return "sum";
                case 2: return "worth";
                case 3: return "kind";
                case 4: return "day";
                default: return "trial";
            }
        }

        private static String keyAt(int key) {
            switch (key) {
                case GAIN: return "gain";
                case FADE: return "fade";
                case DROP: return "drop";
                case OR: return "or";
                case AND: return "and";
                default: return "not";
            }
        }

        private static boolean isBlank(int b) {
            return b == 32 || b == 10;
        }

        private static boolean isLetter(int b) {
            return within(b, 'a', 'z');
        }

        private static boolean isDigit(int b) {
            return within(b, '0', '9');
        }
    }

    /** The WATCHED DAYS, and what was last found out by them. */
    private static final class Watch {
        final int[] plans = new int[MOST_WATCHED];
        final int[] sets = new int[MOST_WATCHED];
        final int[] drops = new int[MOST_WATCHED];
        int size;
        /** How many PACES are let, the least and the greatest. */
        int paces;
        int leastPace;
        int greatestPace;
        /** The last WATCHED DAY that threw a PACE out. */
        int lastOff;
        int farthestPlan;
        int farthest;

        void add(int plan, int set, int seen) {
            plans[size] = plan;
            sets[size] = set;
            drops[size] = seen;
            size++;
        }

        void forgetPaces() {
            paces = 0;
            leastPace = NONE;
            greatestPace = NONE;
            lastOff = NONE;
        }

        /** PACES come from the least on. */
        void addPace(int pace) {
            paces++;
            if (leastPace == NONE) {
                leastPace = pace;
            }
            greatestPace = pace;
        }
    }

    /** A row of numbers, or missing; its items have room for the longest row from the start. */
    private static final class Sheet {
        static final int MISSING = -1, BYTES = 0, SHORTS = 1;

        int sort = MISSING;
        private int size;
        final int[] items = new int[SHEET_SIZE];

        boolean isMissing() {
            return sort == MISSING;
        }

        void become(int newSort, int newSize) {
            sort = newSort;
            size = newSize;
            Arrays.fill(items, 0);
        }

        boolean has(int i) {
            return within(i, 0, size - 1);
        }

        boolean hasRun(int from, int n) {
            return from >= 0 && n >= 0 && (long) from + n <= size;
        }

        void put(int i, int v) {
            if (sort == BYTES) {
                items[i] = (byte) v;
            } else if (sort == SHORTS) {
                items[i] = (short) v;
            } else {
                items[i] = v;
            }
        }
    }
}
