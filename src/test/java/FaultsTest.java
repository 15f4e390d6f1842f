/** The place of each FAULT: of texts by what may stand where, byte by byte; of plans likewise. */
public final class FaultsTest extends Twins {
    private static final String WHOLE = "gain 1;fade 2;drop 3;";
    /** Every token, and what is none: a word, a number that is too long, a byte. */
    private static final String[] TOKENS = {
        "0", "9999", "strength", "sum", "worth", "kind", "day", "trial", "-", "(", "not",
        ")", ";", "+", "*", "<", "=", "or", "and", "gain", "fade", "drop", "word", "10000", "00000", "_"};
    private static final String OPERANDS = " 0 9999 strength sum worth kind day trial - ( ";
    private static final String JOINS = " + - * or and ";

    public static void main(String[] args) {
        keysInTheirOrder();
        whereAnOperandIsDue();
        behindAnOperand();
        tooEarly();
        bytesThatBeginNone();
        blanks();
        wordsAreAsLongAsCanBe();
        wordsThatAreNone();
        numbersOfFourDigits();
        openOnes();
        openOnesEnd();
        openOnesByTwos();
        textsOfAllTheTape();
        planBytes();
        planEachOnce();
        planOf24();
        planTooEarly();
        plansOfAllTheTape();
        Due.end();
    }

    private static void text(String what, String letters, int due) {
        BellAndDrop x = new BellAndDrop();
        Due.is(what + ": " + letters.replace('\n', '~'), Due.text(x, letters), due);
        Due.is("how many behind " + what, x.count(3), due < 0 ? 1 : 2);
        Due.is("the tape behind " + what, x.count(4), 0);
    }

    /** What stands ahead is right; the next token is, if it may stand there, followed by too early an end. */
    private static void nextToken(String ahead, String mayStand) {
        for (String token : TOKENS) {
            String letters = ahead + " " + token;
            boolean may = mayStand.contains(" " + token + " ");
            text("behind " + ahead, letters, -100 - (may ? letters.length() : ahead.length() + 1));
            // and whatever comes behind a fault does not matter
            if (!may) {
                text("behind " + ahead, letters + " )) _ 12345 " + WHOLE, -100 - ahead.length() - 1);
            }
        }
        text("end behind " + ahead, ahead, -100 - ahead.length());
        text("blanks, then the end behind " + ahead, ahead + " \n ", -100 - ahead.length() - 3);
    }

    // "TEXT: gain E ; fade E ; drop E ;"
    private static void keysInTheirOrder() {
        nextToken("", " gain ");
        nextToken("gain 1;", " fade ");
        nextToken("gain 1;fade 1;", " drop ");
        for (String token : TOKENS) {
            text("behind all", WHOLE + token, -100 - WHOLE.length());
            text("behind all", WHOLE + "  " + token + WHOLE, -100 - WHOLE.length() - 2);
        }
        text("nothing behind all", WHOLE, 1);
        text("blanks behind all", WHOLE + " \n", 1);
    }

    // "E: AND { or AND }. AND: NOT { and NOT }. NOT: not NOT, or SUM, perhaps < or = and a SUM"
    private static void whereAnOperandIsDue() {
        String[] parts = {"gain", "gain 1;fade", "gain 1;fade 1;drop"};
        String[] withNot = {"", "not", "(", "1 or", "1 and", "1<2 or", "not 1 and", "(1 and", "1+(", "-(", "1<(", "not not"};
        String[] without = {"-", "1+", "1-", "1*", "1<", "1=", "not -", "(-", "(1)*", "1<2+", "1 or 2=", "- -"};
        for (String part : parts) {
            for (String e : withNot) {
                nextToken(part + " " + e, OPERANDS + "not ");
            }
            for (String e : without) {
                nextToken(part + " " + e, OPERANDS);
            }
        }
    }

    // "SUM: TERM { + or - TERM }. TERM: ONE { * ONE }. ONE: a NUMBER, a NAME, - ONE, ( E )"
    private static void behindAnOperand() {
        String[] parts = {"gain", "gain 1;fade"};
        String[] plain = {"1", "sum", "-1", "not 1", "(1)", "1+2", "1*2", "1 or 2", "1<2 and 3", "1=2 or 3", "(1<2)", "not(1<2)"};
        String[] compared = {"1<2", "1=2", "not 1<2", "1 or 1<2", "1<2*3", "1<2+3", "1=(2<3)", "1<(2)", "not not 1=-1", "1+1<1"};
        for (String part : parts) {
            for (String e : plain) {
                nextToken(part + " " + e, JOINS + "< = ; ");
                nextToken(part + " (" + e, JOINS + "< = ) ");
            }
            for (String e : compared) {
                nextToken(part + " " + e, JOINS + "; ");
                nextToken(part + " (" + e, JOINS + ") ");
            }
        }
        // the last ; ends the text
        for (String e : plain) {
            text("whole", "gain 1;fade 1;drop " + e + ";", 1);
            text("whole", "gain " + e + ";fade " + e + ";drop " + e + " ;", 1);
        }
    }

    // "(the text's size, if it ends too early)"
    private static void tooEarly() {
        String whole = "gain (1 + 23) * 4 ; fade - sum < 9999 ; drop not day or trial ;";
        text("whole", whole, 1);
        int wordBegun = -1;
        for (int size = 0; size < whole.length(); size++) {
            // a word that is cut off is another word, which is none (these have no word of ours at their heads)
            if (size > 0 && Character.isLetter(whole.charAt(size - 1))) {
                wordBegun = wordBegun < 0 ? size - 1 : wordBegun;
            } else {
                wordBegun = -1;
            }
            boolean cutOff = wordBegun >= 0 && Character.isLetter(whole.charAt(size));
            text("cut off", whole.substring(0, size), -100 - (cutOff ? wordBegun : size));
        }
    }

    // "also of a byte that begins none"
    private static void bytesThatBeginNone() {
        String begins = "();+-*<= \nabcdefghijklmnopqrstuvwxyz0123456789";
        for (int b = 0; b < 256; b++) {
            boolean none = begins.indexOf(b) < 0;
            char c = (char) b;
            if (none) {
                text("byte " + b, "" + c, -100);
                text("byte " + b, "gain " + c, -105);
                text("byte " + b, "gain 1" + c + "2;", -106);
                text("byte " + b, "gain" + c + "1;", -104);
                text("byte " + b, WHOLE + c, -100 - WHOLE.length());
                text("byte " + b, WHOLE + "\n" + c, -101 - WHOLE.length());
            } else if ("+-*<=".indexOf(b) >= 0) {
                text("byte " + b, "gain 1" + c + "2;fade 1;drop 1;", 1);
            }
        }
    }

    // "blanks (32, 10) may stand between"
    private static void blanks() {
        for (String blank : new String[] {" ", "\n", " \n", "\n\n  "}) {
            text("blanks", blank + "gain" + blank + "1" + blank + ";" + blank + "fade(2)" + blank + ";drop" + blank + "-"
                + blank + "sum" + blank + "<" + blank + "3" + blank + ";" + blank, 1);
        }
        text("no blanks", "gain-1;fade(2);drop(sum)*3<0;", 1);
        text("a blank within a number", "gain 1 2;", -107);
        text("a blank within a word", "ga in 1;", -100);
        text("a blank within a word", "gain su m;", -105);
        text("a blank between numbers is one too few", "gain 1\n2;", -107);
    }

    // "TOKENS, each as long as can be"
    private static void wordsAreAsLongAsCanBe() {
        text("gain and a number", "gain1;fade2;drop3;", 1);
        text("a number and a word", "gain 1or 2and 3;fade 1;drop 1;", 1);
        text("two words in one", "gainsum;fade 1;drop 1;", -100);
        text("two words in one", "gain daysum;", -105);
        text("two words in one", "gain notday;", -105);
        text("two words in one", "gain 1 orday;", -107);
        text("two words in one", "gain 1 or notday;", -110);
        text("a word and a number", "gain day1;", -108);
        text("a number and a word", "gain 1day;", -106);
        text("a number as long as can be", "gain 12345;", -105);
        text("not and a (", "gain not(1)and(2)or not(3);fade 1;drop 1;", 1);
    }

    // "a WORD that is neither KEY nor NAME"
    private static void wordsThatAreNone() {
        String[] words = {"strength", "sum", "worth", "kind", "day", "trial", "gain", "fade", "drop", "or", "and", "not"};
        for (String word : words) {
            String[] spoilt = {word.substring(1), word.substring(0, word.length() - 1), word + "s", "a" + word, word + word,
                word.substring(0, word.length() - 1) + "z", "z" + word.substring(1)};
            for (String s : spoilt) {
                text("where an operand is due", "gain " + s + ";fade 1;drop 1;", -105);
                text("behind an operand", "gain 1 " + s + " 1;fade 1;drop 1;", -107);
                text("where a key is due", s + " 1;fade 1;drop 1;", -100);
            }
        }
        for (String name : new String[] {"strength", "sum", "worth", "kind", "day", "trial"}) {
            text("a name", "gain " + name + ";fade " + name + ";drop " + name + ";", 1);
        }
    }

    // "NUMBERS (as many digits as stand there, 4 at most)"
    private static void numbersOfFourDigits() {
        for (String number : new String[] {"0", "9", "00", "99", "000", "999", "0000", "9999", "0001"}) {
            text("a number", "gain " + number + ";fade " + number + ";drop " + number + ";", 1);
            in("its value " + number, x -> x.sign(0), x -> Due.text(x, "gain 1;fade 1;drop 10*(" + number + "="
                + Integer.parseInt(number) + ");") * 0 + x.force(1) * 0 + x.sum(1, 1), 1);
        }
        for (String number : new String[] {"00000", "10000", "99999", "000000", "123456789012"}) {
            text("too long", "gain " + number + ";fade 1;drop 1;", -105);
            text("too long", "gain 1;fade 1+" + number + ";drop 1;", -114);
            text("too long, at the end", "gain " + number, -105);
        }
        text("four digits, then the end", "gain 1234", -109);
        text("four and four", "gain 1234 5678", -110);
    }

    /** Takes an E with a ^ ahead of the token that is one too many, or none. */
    private static void open(String marked) {
        String[] around = {"gain ^;fade 1;drop 1;", "gain 1;fade ^;drop 1;", "gain 1;fade 1;drop ^;"};
        for (String a : around) {
            String whole = a.replace("^", marked);
            int place = whole.indexOf('^');
            text("open", whole.replace("^", ""), place < 0 ? 1 : -100 - place);
        }
    }

    // "a ( , a not, a - ahead of a ONE while 5 of these are open"
    private static void openOnes() {
        String[] opens = {"(", "not ", "-"};
        for (int n = 0; n <= 8; n++) {
            for (String o : opens) {
                String close = o.equals("(") ? ")".repeat(n) : "";
                String e = n <= 5 ? o.repeat(n) + "1" + close : o.repeat(5) + "^" + o.repeat(n - 5) + "1" + close;
                open(e);
            }
        }
        // five of them in any order (no not behind a -), and a sixth of each kind
        for (int order = 0; order < 243; order++) {
            StringBuilder head = new StringBuilder();
            StringBuilder tail = new StringBuilder();
            String last = "(";
            boolean right = true;
            for (int i = 0, rest = order; i < 5; i++, rest /= 3) {
                String o = opens[rest % 3];
                right &= !(o.equals("not ") && last.equals("-"));
                last = o;
                head.append(o);
                tail.append(o.equals("(") ? ")" : "");
            }
            if (right) {
                open(head + "1" + tail);
                open(head + "^-1" + tail);
                open(head + "^(1)" + tail);
                open(head + "^not 1" + tail);
                // a - that stands ahead of the 1 has ended with it, a not or a ( has not
                String sixth = last.equals("-") ? "" : "^";
                open(head + "1*" + sixth + "-1" + tail);
                open(head + "1<2+" + sixth + "(1)" + tail);
            }
        }
    }

    // "(a ( till its ) , not and - till what they belong to ends)"
    private static void openOnesEnd() {
        String[] five = {"(((((1)))))", "-----1", "not not not not not 1", "--((-1))", "not(not(-1))", "not not(((1)))"};
        for (String a : five) {
            for (String b : five) {
                open(a + " or " + b);
                open(a + " and " + b + " or " + a);
            }
        }
        String[] ones = {"(((((1)))))", "-----1", "--((-1))", "-(-(-1))"};
        for (String a : ones) {
            for (String b : ones) {
                open(a + "+" + b);
                open(a + "-" + b);
                open(a + "*" + b + "*" + a);
                open(a + "<" + b);
                open(a + "=" + b + "-" + a);
            }
        }
        // a - ends with its ONE, a not with all that it denies
        open("----(1)*(((((1)))))");
        open("----(1)+-----1");
        open("not not not not -1--1");
        open("not not not not not 1*^-1");
        open("not not not not not 1-2<^(1)");
        open("not not not not (1)<-1");
        open("not not not not not 1 and not not not not not ^not 1");
        open("((((not 1 and not 1 or -1))))");
        open("((((not 1<^-1))))");
        open("((((-1<-1))))");
        open("((((-1<-^-1))))");
        open("not(not(not 1)and-(-1))");
        open("not(not(-1)and-(-^-1))");
    }

    /** Two at a time that are closed again do not add up. */
    private static void openOnesByTwos() {
        open("(-1)+".repeat(8) + "(-1)");
        open("not(1)or ".repeat(8) + "not(1)");
        open("(((" + "(-1)*".repeat(8) + "(-1))))");
        open("(((" + "(-1)*".repeat(8) + "(-^-1))))");
    }

    // "A TEXT is read from THE TAPE (160 bytes at most)"
    private static void textsOfAllTheTape() {
        for (int size = 158; size <= 160; size++) {
            String head = "gain 1;fade 2;drop 3";
            text("of " + size, head + " ".repeat(size - head.length() - 1) + ";", 1);
            text("of " + size + ", without its end", head + " ".repeat(size - head.length()), -100 - size);
            text("of " + size + " and a fault at last", head + ";" + " ".repeat(size - head.length() - 2) + ";", -100 - size + 1);
        }
        String sums = "gain 1;fade 2;drop 3" + "+1".repeat(69) + " ;";
        Due.is("its size", sums.length(), 160);
        text("of as many ones as can be", sums, 1);
        text("with one plus too many", sums.replace(" ;", "+;"), -259);
        text("with no end", sums.replace(" ;", "  "), -260);
        text("of words alone", "a".repeat(160), -100);
        text("of digits alone", "gain " + "1".repeat(155), -105);
        text("of ( alone", "gain " + "(".repeat(155), -110);
        text("of blanks alone", " ".repeat(160), -260);
    }

    private static void plan(int signs, String letters, int due) {
        BellAndDrop x = behind(signs(signs));
        Due.is("plan of " + signs + ": " + letters, Due.plan(x, letters), due);
        Due.is("how many behind it", x.count(2), due < 0 ? 0 : 1);
        Due.is("the tape behind it", x.count(4), 0);
    }

    // "letters of SIGNS that there are, .. then + (meat), - (none), ! (shock) or ? (sickness). Nothing stands between."
    private static void planBytes() {
        for (int b = 0; b < 256; b++) {
            char c = (char) b;
            boolean end = "+-!?".indexOf(b) >= 0;
            for (int n = 0; n <= 8; n++) {
                boolean letter = b >= 'a' && b < 'a' + n;
                plan(n, c + "-", end || letter ? 0 : -100);
                plan(n, "!" + c + "-", end || letter ? 0 : -101);
                plan(n, "" + c, end ? 0 : letter ? -101 : -100);
                plan(n, "-" + c, end ? 0 : letter ? -102 : -101);
            }
        }
        String ends = "-+!?";
        for (int end = 0; end < 4; end++) {
            String p = "a" + ends.charAt(end);
            int e = end;
            in("the end of " + p, signs(1), x -> Due.plan(x, p) * 0 + x.planned(0, 0, 1), e);
        }
    }

    // "each once in a TRIAL, none or more"
    private static void planEachOnce() {
        plan(8, "abcdefgh+", 0);
        plan(8, "hgfedcba+hgfedcba-", 0);
        for (int n = 1; n <= 8; n++) {
            String all = "abcdefgh".substring(0, n);
            for (int i = 0; i < n; i++) {
                plan(8, all + all.charAt(i) + "+", -100 - n);
                plan(8, all + "+" + all + all.charAt(i), -101 - 2 * n);
                plan(8, all + "+" + all.charAt(i) + "+", 0);
            }
        }
        plan(1, "++", 0);
        plan(1, "aa+", -101);
    }

    // "TRIALS, 1 to 24 of them"
    private static void planOf24() {
        for (int n = 1; n <= 24; n++) {
            plan(1, "a+".repeat(n), 0);
            plan(1, "!".repeat(n), 0);
            int trials = n;
            in("so many", signs(1), x -> Due.plan(x, "a+".repeat(trials)) * 0 + x.planned(0, -1, 0), n);
        }
        for (String more : new String[] {"+", "-", "!", "?", "a", "a+", "b", " ", "\n", "aa"}) {
            plan(1, "a+".repeat(24) + more, -148);
            plan(1, "?".repeat(24) + more, -124);
        }
        plan(1, "+".repeat(23) + "a", -124);
        plan(1, "+".repeat(23) + "a!", 0);
    }

    // "(THE TAPE's size, if it ends too early, also if there is no TRIAL)"
    private static void planTooEarly() {
        String whole = "ab+-cd!bca?-";
        for (int size = 0; size <= whole.length(); size++) {
            boolean right = size > 0 && "+-!?".indexOf(whole.charAt(size - 1)) >= 0;
            plan(4, whole.substring(0, size), right ? 0 : -100 - size);
        }
        plan(0, "", -100);
    }

    private static void plansOfAllTheTape() {
        // 24 trials of eight letters have no room; 17 of eight and 7 of none have
        String all = "abcdefgh+".repeat(17) + "-".repeat(7);
        Due.is("its size", all.length(), 160);
        plan(8, all, 0);
        plan(8, "abcdefgh+".repeat(17) + "abcdefg", -260);
        plan(8, "abcdefgh+".repeat(17) + "abcdefa", -259);
        in("its last", signs(8), x -> Due.plan(x, all) * 0 + x.planned(0, 23, 1), 0);
        in("its size", signs(8), x -> Due.plan(x, all) * 0 + x.planned(0, -1, 0), 24);
    }
}
