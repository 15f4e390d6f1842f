import java.util.ArrayDeque;
import java.util.ArrayList;
import java.util.Arrays;
import java.util.Deque;
import java.util.List;
import java.util.Map;
import java.util.TreeMap;

/**
 * The document once more, slow and in another way: kinds as classes, every trial kept in a list, a text as a tree,
 * rows as Java's own arrays, whose exceptions are the host's refusals.
 */
final class Model {
    private static final long NO = BellAndDrop.NO;

    /** What a NAME of a text stands for. */
    private record Case(int strength, int sum, int worth, int kind, int day, int trial) { }

    private interface Expr {
        int of(Case c);
    }

    private record Rule(Expr gain, Expr fade, Expr drop) { }

    private static class Fault extends RuntimeException {
        final int place;

        Fault(int place) {
            this.place = place;
        }
    }

    // ---- signs by kind

    private static class Sign {
        int strength;
        int on;

        int kind() {
            return 0;
        }

        int loud() {
            return 20;
        }

        int fades(int byRule) {
            return byRule;
        }
    }

    private static class Good extends Sign {
        int kind() {
            return 1;
        }

        int loud() {
            return super.loud() + 10;
        }

        int fades(int byRule) {
            return super.fades(byRule) / 2;
        }
    }

    private static class Bad extends Sign {
        int kind() {
            return 2;
        }

        int fades(int byRule) {
            return super.fades(byRule) + 2;
        }
    }

    private static class Slow extends Good {
        int kind() {
            return 3;
        }

        int loud() {
            return super.loud() / 2;
        }

        int fades(int byRule) {
            return super.fades(byRule) + 1;
        }
    }

    private static class Stale extends Good {
        int kind() {
            return 4;
        }

        int loud() {
            return Math.max(1, super.loud() - on / 4);
        }
    }

    private static class Place extends Bad {
        int kind() {
            return 5;
        }

        int loud() {
            return super.loud() / 4;
        }

        int fades(int byRule) {
            return 0;
        }
    }

    private static final Class<?>[] KINDS = {Sign.class, Good.class, Bad.class, Slow.class, Stale.class, Place.class};

    private static Sign make(int kind) {
        switch (kind) {
            case 0: return new Sign();
            case 1: return new Good();
            case 2: return new Bad();
            case 3: return new Slow();
            case 4: return new Stale();
            default: return new Place();
        }
    }

    private record Trial(int set, int end) { }

    private record Past(int set, int end, int day) { }

    private record Watched(int plan, int set, int drops) { }

    private record Image(int day, int[] strength, int[] on, List<Past> past, int pace, int rule) { }

    private List<Sign> signs = new ArrayList<>();
    private List<Past> past = new ArrayList<>();
    private int day;
    private int pace = 30;
    private int rule;
    private final int[] worth = {0, 1000, -800, -600};
    private final Map<String, Integer> goes = new TreeMap<>();
    private final Map<String, Integer> like = new TreeMap<>();
    private final List<Rule> rules = new ArrayList<>();
    private final List<List<Trial>> plans = new ArrayList<>();
    private final List<Watched> watched = new ArrayList<>();
    private final List<Integer> tape = new ArrayList<>();
    private final Object[] sheets = new Object[4];
    private Image image;

    Model() {
        rules.add(parse("gain 100 ; fade 4 ; drop sum ;"));
    }

    private boolean has(int sign) {
        return sign >= 0 && sign < signs.size();
    }

    private boolean isSet(int set) {
        return set >= 0 && Long.highestOneBit(set) < 1L << signs.size();
    }

    private boolean hasPlan(int plan) {
        return plan >= 0 && plan < plans.size();
    }

    private static int clamp(long v, int least, int greatest) {
        return (int) Math.max(least, Math.min(greatest, v));
    }

    // ---- signs, ends

    int sign(int kind) {
        if (kind < 0 || kind > 5) return -2;
        if (signs.size() == 8) return -4;
        signs.add(make(kind));
        return signs.size() - 1;
    }

    long told(int sign, int what) {
        if (!has(sign) || what < 0 || what > 4) return NO;
        Sign s = signs.get(sign);
        return new long[] {s.kind(), s.strength, s.on, s.loud(), fades(s)}[what];
    }

    private int fades(Sign s) {
        int byRule = clamp(rules.get(rule).fade.of(new Case(s.strength, 0, 0, s.kind(), day, 0)), 0, 100);
        return Math.min(100, s.fades(byRule));
    }

    int worth(int end, int v) {
        if (end < 1 || end > 3 || v < -2000 || v > 2000) return -9999;
        int was = worth[end];
        worth[end] = v;
        return was;
    }

    int goes(int kind, int end, int v) {
        if (kind < 0 || kind > 5 || end < 0 || end > 3 || v < 0 || v > 100) return -2;
        Integer was = goes.put(kind + "/" + end, v);
        return was == null ? 100 : was;
    }

    private static String pair(int a, int b) {
        return Math.min(a, b) + "/" + Math.max(a, b);
    }

    int like(int a, int b, int v) {
        if (!has(a) || !has(b) || a == b || v < 0 || v > 100) return -2;
        Integer was = like.put(pair(a, b), v);
        return was == null ? 0 : was;
    }

    int pace(int v) {
        if (v < 1 || v > 100) return -2;
        int was = pace;
        pace = v;
        return was;
    }

    // ---- texts, plans

    int feed(int n, long bytes) {
        if (n < 1 || n > 8) return -2;
        if (tape.size() + n > 160) return -4;
        for (int i = 0; i < n; i++) {
            tape.add((int) ((bytes >> 8 * i) & 255));
        }
        return tape.size();
    }

    private String takeTape() {
        StringBuilder b = new StringBuilder();
        for (int v : tape) {
            b.append((char) v);
        }
        tape.clear();
        return b.toString();
    }

    int text() {
        if (rules.size() == 6) return -4;
        try {
            rules.add(parse(takeTape()));
            return rules.size() - 1;
        } catch (Fault f) {
            return -100 - f.place;
        }
    }

    int force(int text) {
        if (text < 0 || text >= rules.size()) return -2;
        int was = rule;
        rule = text;
        return was;
    }

    /** Of all beginnings of the tape the longest that some plan begins with tells the fault. */
    int plan() {
        if (plans.size() == 8) return -4;
        String t = takeTape();
        String letter = signs.isEmpty() ? "[^\\x00-\\uffff]" : "[a-" + (char) ('a' + signs.size() - 1) + "]";
        String once = "(?:(" + letter + ")(?!" + letter + "*\\1))*";
        String whole = "(?:" + letter + "*[-+!?])";
        for (int end = 1; end <= t.length(); end++) {
            String begun = t.substring(0, end);
            boolean form = begun.matches(whole + "{0,23}" + letter + "*") || begun.matches(whole + "{24}");
            boolean each = true;
            for (String part : begun.split("[-+!?]")) {
                each &= part.matches(once);
            }
            if (!form || !each) return -100 - (end - 1);
        }
        if (!t.matches(whole + "+")) return -100 - t.length();
        List<Trial> read = new ArrayList<>();
        int set = 0;
        for (char c : t.toCharArray()) {
            if (c >= 'a') {
                set += 1 << c - 'a';
            } else {
                read.add(new Trial(set, "-+!?".indexOf(c)));
                set = 0;
            }
        }
        plans.add(read);
        return plans.size() - 1;
    }

    int planned(int plan, int i, int what) {
        if (!hasPlan(plan)) return -1;
        List<Trial> p = plans.get(plan);
        if (i == -1) return p.size();
        if (i < 0 || i >= p.size() || what < 0 || what > 1) return -1;
        return what == 0 ? p.get(i).set : p.get(i).end;
    }

    // ---- days

    private static List<Integer> members(int set) {
        List<Integer> all = new ArrayList<>();
        for (int i = 0; i < 8; i++) {
            if ((set & 1 << i) != 0) all.add(i);
        }
        return all;
    }

    private int sumOf(int set) {
        int sum = 0;
        for (int s = 0; s < signs.size(); s++) {
            if (members(set).contains(s)) {
                sum += signs.get(s).strength;
                continue;
            }
            for (int on : members(set)) {
                sum += signs.get(s).strength * like.getOrDefault(pair(s, on), 0) / 100;
            }
        }
        return sum;
    }

    private int dropsOf(int set) {
        if (set == 0) return 0;
        Sign s = signs.get(members(set).get(0));
        return clamp(rules.get(rule).drop.of(new Case(s.strength, sumOf(set), 0, s.kind(), day, 0)) / 10, 0, 99);
    }

    private int trialsToday() {
        int n = 0;
        for (Past p : past) {
            if (p.day == day) n++;
        }
        return n;
    }

    /** What each sign gains; the trial has come then. */
    private Map<Integer, Long> go(int set, int end) {
        Map<Integer, Long> gains = new TreeMap<>();
        int sum = sumOf(set);
        for (int i : members(set)) {
            Sign s = signs.get(i);
            Case c = new Case(s.strength, sum, worth[end], s.kind(), day, trialsToday());
            long gain = worth[end] - sum;
            gain = gain * s.loud() / 100;
            gain = gain * pace / 100;
            gain = gain * goes.getOrDefault(s.kind() + "/" + end, 100) / 100;
            gain = gain * clamp(rules.get(rule).gain.of(c), 0, 400) / 100;
            gains.put(i, gain);
        }
        for (int i : gains.keySet()) {
            Sign s = signs.get(i);
            s.strength = clamp(s.strength + gains.get(i), -9999, 9999);
            s.on++;
        }
        past.add(new Past(set, end, day));
        return gains;
    }

    private void goDay(int plan) {
        for (Trial t : plans.get(plan)) {
            go(t.set, t.end);
        }
        for (Sign s : signs) {
            s.strength = s.strength * (100 - fades(s)) / 100;
        }
        day++;
    }

    long trial(int set, int end) {
        if (!isSet(set) || end < 0 || end > 3) return NO;
        int surprise = worth[end] - sumOf(set);
        go(set, end);
        return surprise;
    }

    long sum(int set, int what) {
        if (!isSet(set) || what < 0 || what > 1) return NO;
        return what == 0 ? sumOf(set) : dropsOf(set);
    }

    int days(int plan, int n) {
        if (!hasPlan(plan) || n < 1 || n > 50) return -2;
        if (day + n > 400) return -4;
        for (int i = 0; i < n; i++) {
            goDay(plan);
        }
        return day;
    }

    private int[] strengths() {
        return signs.stream().mapToInt(s -> s.strength).toArray();
    }

    private int[] ons() {
        return signs.stream().mapToInt(s -> s.on).toArray();
    }

    private Image keep() {
        return new Image(day, strengths(), ons(), new ArrayList<>(past), pace, rule);
    }

    private void restore(Image i) {
        day = i.day;
        pace = i.pace;
        rule = i.rule;
        past = new ArrayList<>(i.past);
        for (int s = 0; s < signs.size(); s++) {
            if (s < i.strength.length) {
                signs.get(s).strength = i.strength[s];
            }
            signs.get(s).on = s < i.on.length ? i.on[s] : 0;
        }
    }

    private void clear() {
        day = 0;
        past = new ArrayList<>();
        for (Sign s : signs) {
            s.strength = 0;
            s.on = 0;
        }
    }

    int rests(int plan, int n) {
        if (!hasPlan(plan) || n < 0 || n > 100) return -2;
        Image now = keep();
        int found = -1;
        for (int i = 0; i <= n && found < 0; i++) {
            int[] ahead = strengths();
            goDay(plan);
            if (Arrays.equals(ahead, strengths())) found = i;
        }
        restore(now);
        return found;
    }

    int blocked(int plan) {
        if (!hasPlan(plan)) return -2;
        Image now = keep();
        int blocked = 0;
        Map<Integer, Boolean> nothing = new TreeMap<>();
        for (Trial t : plans.get(plan)) {
            Map<Integer, Long> gains = go(t.set, t.end);
            if (t.end == 0) continue;
            for (int s : gains.keySet()) {
                nothing.merge(s, gains.get(s) == 0, (a, b) -> a && b);
            }
        }
        for (int s : nothing.keySet()) {
            if (nothing.get(s)) blocked |= 1 << s;
        }
        restore(now);
        return blocked;
    }

    long counted(int sign, int end, int part) {
        if (!has(sign) || end < 0 || end > 3 || part < 0 || part > 1) return NO;
        long[][] n = new long[2][2];
        for (Past p : past) {
            int with = members(p.set).contains(sign) ? 1 : 0;
            n[with][1]++;
            if (p.end == end) n[with][0]++;
        }
        long below = 1;
        long above = 0;
        if (n[1][1] > 0) {
            above = n[1][0];
            below = n[1][1];
        }
        if (n[0][1] > 0) {
            above = above * n[0][1] - n[0][0] * below;
            below = below * n[0][1];
        }
        long g = java.math.BigInteger.valueOf(above).gcd(java.math.BigInteger.valueOf(below)).longValue();
        return part == 0 ? above / g : below / g;
    }

    // ---- watched days

    int watched(int plan, int set, int drops) {
        if (!hasPlan(plan) || set == 0 || !isSet(set) || drops < 0 || drops > 99) return -2;
        if (watched.size() == 20) return -4;
        watched.add(new Watched(plan, set, drops));
        return watched.size() - 1;
    }

    /** The PACES that let the first so many WATCHED DAYS. */
    private List<Integer> let(int slip, int first) {
        Image now = keep();
        List<Integer> paces = new ArrayList<>();
        for (int p = 5; p <= 100; p += 5) {
            clear();
            pace = p;
            boolean lets = true;
            for (Watched w : watched.subList(0, first)) {
                goDay(w.plan);
                lets &= Math.abs(dropsOf(w.set) - w.drops) <= slip;
            }
            if (lets) paces.add(p);
        }
        restore(now);
        return paces;
    }

    int lets(int slip, int what) {
        if (slip < 0 || slip > 99 || what < 0 || what > 2) return -2;
        List<Integer> paces = let(slip, watched.size());
        if (what == 0) return paces.size();
        if (paces.isEmpty()) return -1;
        return what == 1 ? paces.get(0) : paces.get(paces.size() - 1);
    }

    int thrownOut(int slip) {
        if (slip < 0 || slip > 99) return -2;
        for (int i = 0; i < watched.size(); i++) {
            if (let(slip, i + 1).isEmpty()) return i;
        }
        return -1;
    }

    int next(int slip, int set, int what) {
        if (slip < 0 || slip > 99 || set == 0 || !isSet(set) || what < 0 || what > 1) return -2;
        List<Integer> paces = let(slip, watched.size());
        if (paces.isEmpty() || plans.isEmpty()) return -3;
        Image now = keep();
        int[] parts = new int[plans.size()];
        for (int p = 0; p < parts.length; p++) {
            int[] drops = new int[2];
            for (int k = 0; k < 2; k++) {
                clear();
                pace = k == 0 ? paces.get(0) : paces.get(paces.size() - 1);
                watched.forEach(w -> goDay(w.plan));
                goDay(p);
                drops[k] = dropsOf(set);
            }
            parts[p] = Math.abs(drops[0] - drops[1]);
        }
        restore(now);
        int most = Arrays.stream(parts).max().getAsInt();
        if (what == 1) return most;
        for (int p = 0; ; p++) {
            if (parts[p] == most) return p;
        }
    }

    int near(int a, int b, int plan, int n, int apart) {
        if (!has(a) || !has(b) || a == b || !hasPlan(plan) || n < 1 || n > 20 || apart < 1 || apart > 99) return -2;
        Image now = keep();
        Integer was = like.get(pair(a, b));
        int greatest = -1;
        for (int v = 0; v <= 100; v += 5) {
            like.put(pair(a, b), v);
            clear();
            for (int i = 0; i < n; i++) {
                goDay(plan);
            }
            if (Math.abs(dropsOf(1 << a) - dropsOf(1 << b)) >= apart) greatest = v;
        }
        like.put(pair(a, b), was == null ? 0 : was);
        restore(now);
        return greatest;
    }

    int image() {
        image = keep();
        return day;
    }

    int back() {
        if (image == null) return -3;
        restore(image);
        return day;
    }

    int count(int what) {
        if (what < 0 || what > 8) return -2;
        return new int[] {signs.size(), day, plans.size(), rules.size(), tape.size(), rule, watched.size(), past.size(), pace}[what];
    }

    // ---- the host

    int sheet(int sheet, int sort, int n) {
        if (sheet < 0 || sheet > 3 || sort < -1 || sort > 2) return -2;
        if (sort == -1) {
            sheets[sheet] = null;
            return 1;
        }
        if (n > 40) return -2;
        try {
            sheets[sheet] = sort == 0 ? new byte[n] : sort == 1 ? new short[n] : new int[n];
            return 1;
        } catch (NegativeArraySizeException e) {
            return -14;
        }
    }

    int cell(int sheet, int i, int v) {
        if (sheet < 0 || sheet > 3) return -2;
        Object row = sheets[sheet];
        try {
            if (row instanceof byte[]) {
                ((byte[]) row)[i] = (byte) v;
            } else if (row instanceof short[]) {
                ((short[]) row)[i] = (short) v;
            } else {
                ((int[]) row)[i] = v;
            }
            return 1;
        } catch (NullPointerException e) {
            return -11;
        } catch (ArrayIndexOutOfBoundsException e) {
            return -12;
        }
    }

    int copy(int sheet, int i, int other, int j, int n) {
        if (sheet < 0 || sheet > 3 || other < 0 || other > 3) return -2;
        try {
            System.arraycopy(sheets[sheet], i, sheets[other], j, n);
            return n;
        } catch (NullPointerException e) {
            return -11;
        } catch (ArrayStoreException e) {
            return -13;
        } catch (IndexOutOfBoundsException e) {
            return -12;
        }
    }

    int trials(int sheet, int sort, int from, int n) {
        if (sheet < 0 || sheet > 3 || sort < 0 || sort > 2 || n < 0 || n > 20) return -2;
        try {
            byte[] bytes = sort == 0 ? (byte[]) sheets[sheet] : null;
            short[] shorts = sort == 1 ? (short[]) sheets[sheet] : null;
            int[] ints = sort == 2 ? (int[]) sheets[sheet] : null;
            if (sheets[sheet] == null) return -11;
            int came = 0;
            for (int k = 0; k < n; k++) {
                int at = from + 2 * k;
                int set = sort == 0 ? bytes[at] : sort == 1 ? shorts[at] : ints[at];
                int end = sort == 0 ? bytes[at + 1] : sort == 1 ? shorts[at + 1] : ints[at + 1];
                if (trial(set, end) != NO) came++;
            }
            return came;
        } catch (ClassCastException e) {
            return -13;
        } catch (ArrayIndexOutOfBoundsException e) {
            return -12;
        }
    }

    int taken(int sign, int k) {
        if (k < 0 || k > 5) return -2;
        if (!has(sign)) return -11;
        return KINDS[k].isInstance(signs.get(sign)) ? signs.get(sign).on : -13;
    }

    // ---- texts: a table of what may stand behind what, with trees built by binding strength

    private record Token(String sort, String text, int place) { }

    private static List<Token> tokens(String t) {
        List<Token> all = new ArrayList<>();
        int at = 0;
        while (at < t.length()) {
            java.util.regex.Matcher m = java.util.regex.Pattern.compile("[a-z]+|[0-9]+|[ \n]|[();+*<=-]").matcher(t).region(at, t.length());
            if (!m.lookingAt()) {
                all.add(new Token("wrong", "", at));
                return all;
            }
            String s = m.group();
            String sort = s;
            if (Character.isDigit(s.charAt(0))) sort = s.length() <= 4 ? "operand" : "wrong";
            if (s.matches("strength|sum|worth|kind|day|trial")) sort = "operand";
            else if (s.matches("[a-z]+") && !s.matches("gain|fade|drop|or|and|not")) sort = "wrong";
            if (!s.isBlank()) all.add(new Token(sort, s, at));
            at = m.end();
        }
        all.add(new Token("end", "", t.length()));
        return all;
    }

    private static final class Parse {
        final List<Token> tokens;
        int at;
        final Deque<Expr> operands = new ArrayDeque<>();
        final Deque<String> joins = new ArrayDeque<>();
        /** What is open of ( not -, and for each ( if the comparison around it is made. */
        final Deque<String> open = new ArrayDeque<>();
        final Deque<Boolean> outerCompared = new ArrayDeque<>();
        boolean compared;

        Parse(List<Token> tokens) {
            this.tokens = tokens;
        }

        Token here() {
            return tokens.get(at);
        }

        Fault fault() {
            return new Fault(here().place);
        }

        void expect(String sort) {
            if (!here().sort.equals(sort)) throw fault();
            at++;
        }

        void opens(String what) {
            if (open.size() == 5) throw fault();
            open.push(what);
        }

        void closes(String what) {
            while (what.equals(open.peek())) {
                open.pop();
            }
        }

        static int binds(String join) {
            switch (join) {
                case "or": return 1;
                case "and": return 2;
                case "not": return 3;
                case "<": case "=": return 4;
                case "+": case "-": return 5;
                case "*": return 6;
                case "neg": return 7;
                default: return 0;
            }
        }

        void join() {
            String j = joins.pop();
            Expr b = operands.pop();
            if (j.equals("not")) {
                operands.push(c -> b.of(c) == 0 ? 1 : 0);
                return;
            }
            if (j.equals("neg")) {
                operands.push(c -> -b.of(c));
                return;
            }
            Expr a = operands.pop();
            switch (j) {
                case "or": operands.push(c -> a.of(c) != 0 | b.of(c) != 0 ? 1 : 0); break;
                case "and": operands.push(c -> a.of(c) != 0 & b.of(c) != 0 ? 1 : 0); break;
                case "<": operands.push(c -> a.of(c) < b.of(c) ? 1 : 0); break;
                case "=": operands.push(c -> a.of(c) == b.of(c) ? 1 : 0); break;
                case "+": operands.push(c -> a.of(c) + b.of(c)); break;
                case "-": operands.push(c -> a.of(c) - b.of(c)); break;
                default: operands.push(c -> a.of(c) * b.of(c)); break;
            }
        }

        void joinDownTo(int binding) {
            while (!joins.isEmpty() && binds(joins.peek()) >= binding) {
                join();
            }
        }

        /** Up to the ; that ends it, by two states: an operand is due, or what joins is. */
        Expr whole() {
            boolean operandDue = true;
            boolean notMayStand = true;
            compared = false;
            while (true) {
                Token t = here();
                if (operandDue) {
                    if (t.sort.equals("operand")) {
                        operands.push(leaf(t.text));
                        closes("-");
                        operandDue = false;
                    } else if (t.sort.equals("-")) {
                        opens("-");
                        joins.push("neg");
                        notMayStand = false;
                    } else if (t.sort.equals("(")) {
                        opens("(");
                        joins.push("(");
                        outerCompared.push(compared);
                        compared = false;
                        notMayStand = true;
                    } else if (t.sort.equals("not") && notMayStand) {
                        opens("not");
                        joins.push("not");
                    } else {
                        throw fault();
                    }
                } else if (t.sort.matches("[-+*]")) {
                    joinDownTo(binds(t.sort));
                    joins.push(t.sort);
                    operandDue = true;
                    notMayStand = false;
                } else if (t.sort.matches("[<=]") && !compared) {
                    joinDownTo(5);
                    joins.push(t.sort);
                    compared = true;
                    operandDue = true;
                    notMayStand = false;
                } else if (t.sort.equals("or") || t.sort.equals("and")) {
                    closes("not");
                    joinDownTo(binds(t.sort));
                    joins.push(t.sort);
                    compared = false;
                    operandDue = true;
                    notMayStand = true;
                } else if (t.sort.equals(")") && open.contains("(")) {
                    closes("not");
                    joinDownTo(1);
                    joins.pop();
                    open.pop();
                    compared = outerCompared.pop();
                    closes("-");
                } else if (t.sort.equals(";") && !open.contains("(")) {
                    closes("not");
                    joinDownTo(1);
                    at++;
                    return operands.pop();
                } else {
                    throw fault();
                }
                at++;
            }
        }

        static Expr leaf(String text) {
            switch (text) {
                case "strength": return c -> c.strength;
                case "sum": return c -> c.sum;
                case "worth": return c -> c.worth;
                case "kind": return c -> c.kind;
                case "day": return c -> c.day;
                case "trial": return c -> c.trial;
                default: return c -> Integer.parseInt(text);
            }
        }
    }

    private static Rule parse(String text) {
        Parse p = new Parse(tokens(text));
        Expr[] parts = new Expr[3];
        String[] keys = {"gain", "fade", "drop"};
        for (int i = 0; i < 3; i++) {
            p.expect(keys[i]);
            parts[i] = p.whole();
        }
        p.expect("end");
        return new Rule(parts[0], parts[1], parts[2]);
    }
}
