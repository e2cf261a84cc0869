/** The edges of terms I and of promises 1 to 5: a test for each sentence that names one. */
public final class TextBoundsTest {
    private static final int NONE = TentativeDesk.NONE;
    private static final int MIN = Integer.MIN_VALUE;
    private static final int MAX = Integer.MAX_VALUE;

    private static final String A = "cell a 1;";
    private static final String F = "form f needs ";
    private static final String SIX_CELLS = "cell a 1;cell b 2;cell c 3;cell d 4;cell e 5;cell f 6;";
    private static final String[] WORDS = {"copies", "primary", "cell", "form", "needs", "sets", "else", "seed", "x",
        "stamp", "origin"};

    private TextBoundsTest() {
    }

    public static void main(String[] args) {
        Remarked.runAll(TextBoundsTest.class, args);
    }

    private static void is(long got, long want) {
        Due.is(got, want);
    }

    private static void is(boolean got, boolean want) {
        Due.is(got, want);
    }

    private static int feedBlanks(TentativeDesk d) {
        return d.feed(0x20202020, 0x20202020, 0x20202020, 0x20202020, 0x20202020);
    }

    /** What an expression is worth, in a write with x, of STAMP 1, made at copy 2. */
    private static int worth(String e, int x) {
        TentativeDesk d = Due.told("cell a 3;cell b 4;form f needs 0<1 sets b " + e + ";");
        is(d.make(NONE, 2, 0, x), 0);
        return d.cell(2, 1, false);
    }

    // The terms, I.

    @Remark(promise = 2, terms = "I", says = "A TEXT has 2,000 bytes at most.")
    static void promise02TextOf2000Bytes() {
        String gap = " ".repeat(1984);
        TentativeDesk d = new TentativeDesk();
        Due.feed(d, "copies 4;" + gap + "seed 7;");
        is(d.count(8), 2000);
        is(feedBlanks(d), NONE);
        is(d.count(8), 2000);
        is(d.read(), 0);
        is(d.count(0), 4);
        Due.fault("copies 4;" + gap + "seed 77", 1, 2000);
        Due.fault(gap + " ".repeat(15) + ";", 1, 1999);
    }

    @Remark(promise = 4, terms = "I", says = "TOKENS, the longest that can be,")
    static void promise04TokensTheLongest() {
        Due.fault("cell ab 1;cell a 1;cell abc 1;", 0, NONE);
        Due.fault("copies 12;", 5, 7);
        Due.fault("copies 1 2;", 1, 9);
        Due.fault("cell seeds 1;", 0, NONE);
        Due.fault("cell seed s 1;", 1, 5);
        Due.fault(A + "form fneeds 1<2 sets a 1;", 1, 21);
        Due.fault("seed1;seed12;seed123;", 0, NONE);
        Due.fault(A + F + "xx<2 sets a 1;", 4, 22);
        is(worth("12", 0), 12);
        is(worth("1+x", 9), 10);
    }

    @Remark(promise = 4, terms = "I", says = "with blanks (9, 10, 13, 32) between or not:")
    static void promise04Blanks() {
        for (char blank : new char[] {9, 10, 13, 32}) {
            String text = "_copies_2_;_cell_a_1_;_form__f_needs_(_a_)_<_2_sets_a_x_+_1_else_a_1_;_";
            Due.fault(text.replace('_', blank), 0, NONE);
            Due.fault("copies" + blank + "2" + blank, 1, 9);
            Due.fault("cell a" + blank + "b 1;", 1, 7);
            Due.fault("copies 1" + blank + "2;", 1, 9);
        }
        Due.fault("\t\n\r copies\r\n\r\n2\t \t;\n\r\t ", 0, NONE);
        Due.fault("copies2;primary1;seed3;cell a1;form f needs(a)<2sets a(x)else a(1);", 0, NONE);
        for (int b : new int[] {0, 1, 8, 11, 12, 14, 31, 33, 127, 128, 133, 137, 138, 141, 160, 255}) {
            Due.fault("seed 1;" + (char) b + "seed 2;", 1, 7);
        }
    }

    @Remark(promise = 4, terms = "I", says = "NAMES (letters a .. z, 8 at most,")
    static void promise04NamesOfEightLetters() {
        Due.fault("cell a 1;cell z 1;cell abcdefgh 1;cell zyxwvuts 1;", 0, NONE);
        Due.fault("cell abcdefghi 1;", 1, 5);
        Due.fault("cell abcdefgh 1;cell abcdefgi 1;cell bbcdefgh 1;cell abcdefg 1;", 0, NONE);
        Due.fault("cell abcdefgh 1;cell abcdefgh 1;", 3, 21);
        Due.fault(A + "form abcdefgh needs 1<2 sets a 1;", 0, NONE);
        Due.fault(A + "form abcdefghi needs 1<2 sets a 1;", 1, 14);
        Due.fault("cell abcdefgh 1;form f needs abcdefgh<2 sets abcdefgh 1;", 0, NONE);
        Due.fault("cell abcdefgh 1;form f needs abcdefghi<2 sets abcdefgh 1;", 1, 29);
        for (char c : new char[] {'`', '{', '@', '[', 'A', 'Z', '_', 'a' + 128, 'z' + 128}) {
            Due.fault("cell " + c + " 1;", 1, 5);
            Due.fault("cell a" + c + " 1;", 1, 6);
        }
        String all = "abcdefghijklmnopqrstuvwxyz";
        for (int i = 0; i < 26; i++) {
            Due.fault("cell z" + all.charAt(i) + " 1;", 0, NONE);
        }
    }

    @Remark(promise = 4, terms = "I", says = "none of the words in quotes),")
    static void promise04NamesAreNoWords() {
        for (String word : WORDS) {
            Due.fault("cell " + word + " 1;", 1, 5);
            Due.fault(A + "form " + word + " needs 1<2 sets a 1;", 1, 14);
            Due.fault(A + F + "1<2 sets " + word + " 1;", 1, 31);
            Due.fault(A + F + "1<2 sets a 1 else " + word + " 1;", 1, 40);
            Due.fault("cell " + word + "s 1;", 0, NONE);
            if (word.length() > 1) {
                Due.fault("cell " + word.substring(1) + " 1;", 0, NONE);
                Due.fault("cell " + word.substring(0, word.length() - 1) + " 1;", 0, NONE);
                Due.fault("cell " + word.substring(0, 1).toUpperCase() + word.substring(1) + " 1;", 1, 5);
            }
        }
        for (int i = 0; i < 8; i++) {
            Due.fault(A + F + WORDS[i] + "<2 sets a 1;", 1, 22);
        }
    }

    @Remark(promise = 4, terms = "I", says = "INTS (1 to 4 digits),")
    static void promise04IntsOfFourDigits() {
        String[] ints = {"0", "9", "00", "0000", "0042", "9999", "1000"};
        int[] worths = {0, 9, 0, 0, 42, 9999, 1000};
        for (int i = 0; i < ints.length; i++) {
            is(Due.told("cell a " + ints[i] + ";").cell(0, 0, false), worths[i]);
            is(worth(ints[i], 0), worths[i]);
        }
        Due.fault("cell a ;", 1, 7);
        Due.fault("cell a 10000;", 1, 7);
        Due.fault("cell a 00000;", 1, 7);
        Due.fault("cell a 00001;", 1, 7);
        Due.fault("seed 10000;", 1, 5);
        Due.fault(A + F + "99999<1 sets a 1;", 1, 22);
        Due.fault("cell a /;", 1, 7);
        Due.fault("cell a :;", 1, 7);
        Due.fault("cell a 1:;", 1, 8);
    }

    @Remark(promise = 4, terms = "I", says = "SIGNS ; = + - * / < ( ) .")
    static void promise04Signs() {
        Due.fault(A + F + "(1+2-3)*4/5=x sets a 1;form g needs 1<2 sets a 1;", 0, NONE);
        for (int b = 0; b < 256; b++) {
            char c = (char) b;
            boolean isBlank = b == 9 || b == 10 || b == 13 || b == 32;
            if (c >= '0' && c <= '9' || "+-*/".indexOf(c) >= 0) {
                Due.fault(A + F + "1" + c + "1<2 sets a 1;", 0, NONE);
            } else {
                boolean compares = c == '<' || c == '=';
                Due.fault(A + F + "1" + c + "1<2 sets a 1;", 1, 23 + (compares ? 2 : isBlank ? 1 : 0));
            }
        }
    }

    @Remark(promise = 4, terms = "I", says = "A longer one, all else, is no TOKEN.")
    static void promise04LongerOnesAreNone() {
        Due.fault("cell " + "a".repeat(9) + " 1;", 1, 5);
        Due.fault("cell " + "a".repeat(16) + " 1;", 1, 5);
        Due.fault("cell " + "cell".repeat(64) + " 1;", 1, 5);
        Due.fault("originss", 1, 0);
        Due.fault("copiescopies 3;", 1, 0);
        Due.fault("cell aaaaaaaacopies 3;", 1, 5);
        Due.fault("copies 00003;", 1, 7);
        Due.fault("copies 3" + "0".repeat(1200) + ";", 1, 7);
        Due.fault("copies 4294967299;", 1, 7);
        Due.fault("cell a 12345;", 1, 7);
        for (char c : ".,:>[]{}!?&|^%$#@~'\"\\_`ABXZ\u0000\u007f\u0080\u00b2\u00e1\u00ff".toCharArray()) {
            Due.fault("seed 1;" + c, 1, 7);
            Due.fault("seed " + c + ";", 1, 5);
            Due.fault("seed 1" + c, 1, 6);
            Due.fault(A + F + c + "1)<2 sets a 1;", 1, 22);
            Due.fault(A + F + "(1" + c + "<2 sets a 1;", 1, 24);
        }
    }

    @Remark(promise = 4, terms = "I", says = "text: {TELL}.")
    static void promise04TextOfNoTell() {
        for (String none : new String[] {"", " ", "\n\n", "  ".repeat(900)}) {
            TentativeDesk d = new TentativeDesk();
            Due.feed(d, none);
            is(d.read(), 0);
            is(d.place(), NONE);
            is(d.count(0), 3);
        }
        Due.fault("seed 1;", 0, NONE);
        Due.fault("seed 1;".repeat(133), 0, NONE);
        is(Due.told("seed 1;".repeat(132) + "copies 5;").count(0), 5);
        Due.fault("1", 1, 0);
        Due.fault("seed 1;a", 1, 7);
    }

    @Remark(promise = 4, terms = "I", says = {"TELL: 'copies' INT ';' | 'primary' INT ';' | 'cell' NAME INT ';' |",
        "'form' NAME 'needs' E ('<' | '=') E 'sets' NAME E ['else' NAME E] ';' | 'seed' INT ';'."})
    static void promise04TellsTooShortAndTooLong() {
        tell("", "copies", "3", ";");
        tell("", "primary", "2", ";");
        tell("", "seed", "77", ";");
        tell("", "cell", "b", "7", ";");
        tell(A, "form", "f", "needs", "a", "<", "2", "sets", "a", "1", ";");
        tell(A, "form", "f", "needs", "a", "=", "2", "sets", "a", "1", "else", "a", "3", ";");
        Due.fault(A + F + "1<2 sets a 1 else a 2 else a 3;", 1, 44);
        Due.fault(A + F + "1<2<3 sets a 1;", 1, 25);
        Due.fault(A + F + "1<2 else a 1;", 1, 26);
    }

    /**
     * A tell that ends too early, lacks a token or has one twice: the fault stands where it can't go on.
     * A second name of a CELL begins an E.
     */
    private static void tell(String ahead, String... tokens) {
        for (int cut = 1; cut < tokens.length; cut++) {
            StringBuilder early = new StringBuilder(ahead);
            StringBuilder without = new StringBuilder(ahead);
            StringBuilder twice = new StringBuilder(ahead);
            int lackingAt = 0;
            int twiceAt = 0;
            for (int i = 0; i < tokens.length; i++) {
                early.append(i < cut ? tokens[i] + " " : "");
                lackingAt = i == cut ? without.length() : lackingAt;
                without.append(i == cut - 1 ? "" : tokens[i] + " ");
                twice.append(tokens[i]).append(' ');
                twiceAt = i == cut ? twice.length() : twiceAt;
                twice.append(i == cut ? tokens[i] + " " : "");
            }
            Due.fault(early.toString(), 1, early.length());
            Due.fault(without.toString(), 1, lackingAt);
            boolean goesOn = tokens[cut].equals("a") && !tokens[cut - 1].equals("needs");
            Due.fault(twice.toString(), 1, twiceAt + (goesOn ? 2 : 0));
        }
        Due.fault(ahead + String.join(" ", tokens), 0, NONE);
        String noEnd = ahead + String.join(" ", tokens).replace(";", "");
        Due.fault(noEnd, 1, noEnd.length());
    }

    @Remark(promise = 4, terms = "I", says = "E: PART {('+' | '-') PART}.")
    static void promise04SumsOfOnePartAndMore() {
        is(worth("7", 0), 7);
        is(worth("20-3-2", 0), 15);
        is(worth("20-3+2", 0), 19);
        is(worth("1+2*3-4/2", 0), 5);
        String f = A + F;
        Due.fault(f + "<2 sets a 1;", 1, 22);
        Due.fault(f + "+1<2 sets a 1;", 1, 22);
        Due.fault(f + "-1<2 sets a 1;", 1, 22);
        Due.fault(f + "1+<2 sets a 1;", 1, 24);
        Due.fault(f + "1-+2<2 sets a 1;", 1, 24);
        Due.fault(f + "1 2<2 sets a 1;", 1, 24);
    }

    @Remark(promise = 4, terms = "I", says = "PART: UNIT {('*' | '/') UNIT}.")
    static void promise04ProductsOfOneUnitAndMore() {
        is(worth("64/4/2", 0), 8);
        is(worth("7/2*2", 0), 6);
        is(worth("7*2/2", 0), 7);
        is(worth("2*3*4*5", 0), 120);
        String f = A + F;
        Due.fault(f + "*1<2 sets a 1;", 1, 22);
        Due.fault(f + "1/<2 sets a 1;", 1, 24);
        Due.fault(f + "1*-2<2 sets a 1;", 1, 24);
        Due.fault(f + "1**2<2 sets a 1;", 1, 24);
        Due.fault(f + "1+*2<2 sets a 1;", 1, 24);
    }

    @Remark(promise = 4, terms = "I", says = {"UNIT: INT | VAR | NAME | '(' E ')'.", "VAR: 'x' | 'stamp' | 'origin'."})
    static void promise04UnitsEmptyAndOpen() {
        is(worth("5", 9), 5);
        is(worth("x", 9), 9);
        is(worth("stamp", 9), 1);
        is(worth("origin", 9), 2);
        is(worth("a", 9), 3);
        is(worth("(1+2)*3", 0), 9);
        is(worth("20-(3-2)", 0), 19);
        String f = A + F;
        Due.fault(f + "()<2 sets a 1;", 1, 23);
        Due.fault(f + "(1<2 sets a 1;", 1, 24);
        Due.fault(f + "(1;", 1, 24);
        Due.fault(f + "(1", 1, 24);
        Due.fault(f + "1)<2 sets a 1;", 1, 23);
        Due.fault(f + "(1))<2 sets a 1;", 1, 25);
        Due.fault(f + "(1)(2)<2 sets a 1;", 1, 25);
        Due.fault(f + ")1(<2 sets a 1;", 1, 22);
        Due.fault(f + "(1+)<2 sets a 1;", 1, 25);
        Due.fault(f + "x x<2 sets a 1;", 1, 24);
        Due.fault(f + "(1<2) sets a 1;", 1, 24);
    }

    @Remark(promise = 4, terms = "I", says = "COPIES 1 .. 5 (3),")
    static void promise04Copies1To5() {
        is(Due.told("seed 1;").count(0), 3);
        for (int copies = 1; copies <= 5; copies++) {
            TentativeDesk d = Due.told("copies " + copies + ";");
            is(d.count(0), copies);
            is(d.vector(copies - 1, 0), 0);
            is(d.vector(copies, 0), NONE);
        }
        Due.fault("copies 0;", 5, 7);
        Due.fault("copies 6;", 5, 7);
        Due.fault("copies 0001;", 0, NONE);
    }

    @Remark(promise = 4, terms = "I", says = "the PRIMARY 0 .. 4 (0):")
    static void promise04Primary0To4() {
        is(Due.told("copies 5;").count(5), 0);
        for (int primary = 0; primary <= 4; primary++) {
            is(Due.told("copies 5;primary " + primary + ";").count(5), primary);
        }
        Due.fault("copies 5;primary 5;", 5, 17);
        Due.fault("copies 5;primary 9999;", 5, 17);
        Due.fault("copies 1;primary 0;", 0, NONE);
    }

    @Remark(promise = 4, terms = "I", says = "COPIES 1 .. 5 (3), the PRIMARY 0 .. 4 (0): the last ones.")
    static void promise04TheLastCopiesAndPrimary() {
        is(Due.told("copies 5;copies 2;").count(0), 2);
        is(Due.told("copies 2;copies 1;copies 5;").count(0), 5);
        is(Due.told("primary 2;primary 1;").count(5), 1);
        is(Due.told("primary 4;primary 0;primary 2;").count(5), 2);
        is(Due.told("primary 4;copies 1;primary 0;").count(0), 1);
        is(Due.told("primary 4;copies 1;copies 5;").count(5), 4);
        Due.fault("primary 0;copies 5;primary 1;copies 1;", 6, 38);
    }

    @Remark(promise = 4, terms = "I", says = "CELLS, 6 at most (a NAME, what is in it at first),")
    static void promise04CellsSixAtMost() {
        TentativeDesk d = Due.told(SIX_CELLS.replace("a 1", "a 0").replace("f 6", "f 9999"));
        is(d.count(1), 6);
        int[] first = {0, 2, 3, 4, 5, 9999};
        for (int cell = 0; cell < 6; cell++) {
            is(d.cell(0, cell, false), first[cell]);
            is(d.cell(2, cell, true), first[cell]);
        }
        is(d.ask(0, 0, 5), 1);
        is(d.ask(0, 0, 6), NONE);
        Due.fault(SIX_CELLS + "cell g 7;", 2, 54);
        is(Due.told("").count(1), 0);
    }

    @Remark(promise = 4, terms = "I", says = "FORMS, 6 at most (a NAME; NAMES in it are of CELLS),")
    static void promise04FormsSixAtMost() {
        StringBuilder text = new StringBuilder("cell z 0;");
        for (char name = 'a'; name < 'g'; name++) {
            text.append("form ").append(name).append(" needs 0<1 sets z ").append(name - 'a' + 11).append(';');
        }
        TentativeDesk d = Due.told(text.toString());
        is(d.count(2), 6);
        for (int form = 0; form < 6; form++) {
            is(d.make(NONE, 0, form, 0), form);
            is(d.cell(0, 0, false), 11 + form);
        }
        is(d.make(NONE, 0, 6, 0), NONE);
        is(d.count(3), 6);
        Due.fault(text + "form g needs 0<1 sets z 1;", 2, text.length());
        Due.fault("cell z 0;form a needs a<1 sets z 1;", 4, 22);
        Due.fault("cell z 0;form a needs z<1 sets a 1;", 4, 31);
        is(Due.told("cell z 0;").count(2), 0);
    }

    @Remark(promise = 4, terms = "I", says = "numbered each from 0 on as they stand.")
    static void promise04NumberedFrom0() {
        TentativeDesk d = Due.told("cell z 1;form q needs 0<1 sets z 8;seed 3;cell b 2;form a needs 0<1 sets b 9;"
            + "cell c 3;");
        is(d.cell(0, 0, false), 1);
        is(d.cell(0, 1, false), 2);
        is(d.cell(0, 2, false), 3);
        is(d.cell(0, 3, false), 0);
        is(d.make(NONE, 0, 0, 0), 0);
        is(d.cell(0, 0, false), 8);
        is(d.cell(0, 1, false), 2);
        is(d.make(NONE, 0, 1, 0), 1);
        is(d.cell(0, 1, false), 9);
        is(d.make(NONE, 0, 2, 0), NONE);
        is(d.make(NONE, 0, -1, 0), NONE);
    }

    @Remark(promise = 4, terms = "I", says = "SEED 0 .. 9999 (0): the last one.")
    static void promise04Seed0To9999() {
        lots("", 0);
        lots("seed 0;", 0);
        lots("seed 1;", 1);
        lots("seed 9998;", 9998);
        lots("seed 9999;", 9999);
        lots("seed 0009;", 9);
        lots("seed 9999;seed 5;", 5);
        lots("seed 5;seed 0;", 0);
        Due.fault("seed 10000;", 1, 5);
        Due.fault("seed 0-1;", 1, 6);
    }

    private static void lots(String text, int seed) {
        TentativeDesk d = Due.told("copies 5;" + text);
        for (int m = 0; m < 12; m++) {
            is(d.chance(1), m + 1);
            is(d.shut(0), Due.taker(5, seed, m));
            is(d.shut(1), Due.giver(5, seed, m));
        }
    }

    @Remark(promise = 5, terms = "I", says = "FAULTS of a text, the first by its place")
    static void promise05TheFirstFault() {
        Due.fault("; " + SIX_CELLS + "cell g 7;", 1, 0);
        Due.fault(SIX_CELLS + "cell g 7;;", 2, 54);
        Due.fault(SIX_CELLS + ";cell g 7;", 1, 54);
        Due.fault(A + F + "(((((((1)))))))<2 sets a;" + "?", 2, 28);
        Due.fault(A + F + "1 1<2 sets a (((((((1)))))));", 1, 24);
        Due.fault(A + A + "copies 9;", 3, 14);
        Due.fault("copies 9;" + A + A, 5, 7);
        Due.fault(A + F + "b<2 sets a 1;" + A, 4, 22);
        Due.fault(A + A + F + "b<2 sets a 1;", 3, 14);
        Due.fault("primary 9;" + A + F + "b<2 sets a 1;", 5, 8);
        Due.fault(A + F + "b<2 sets a c;primary 9;", 4, 22);
        Due.fault("primary 3;" + A + A, 3, 24);
    }

    @Remark(promise = 5, terms = "I", says = "(a byte; the text's end: its length),")
    static void promise05TheTextsEnd() {
        Due.fault("copies", 1, 6);
        Due.fault("copies 3", 1, 8);
        Due.fault("copies 3   ", 1, 11);
        Due.fault("copies 3" + " ".repeat(1992), 1, 2000);
        Due.fault("primary 3;", 6, 10);
        Due.fault("primary 3;\r\n", 6, 12);
        Due.fault("?", 1, 0);
        Due.fault("  ?", 1, 2);
    }

    @Remark(promise = 4, terms = "I", says = "of one place the least:")
    static void promise04TheLeastOfOnePlace() {
        String ahead = "seed 1;".repeat(133);
        Due.fault(ahead + "cell a", 2, 936);
        Due.fault(ahead + "cell 1", 1, 936);
        Due.fault(ahead + "cell ;", 1, 936);
        Due.fault(ahead + "cell ?", 1, 936);
        Due.fault(ahead + "cell ", 1, 936);
        Due.fault(A + F + "((((((1(", 1, 29);
        Due.fault(A + F + "((((((1*(", 2, 30);
        Due.fault(SIX_CELLS + "copies cell", 1, 61);
    }

    @Remark(promise = 4, terms = "I", says = "1 SYNTAX: a TOKEN, or what is none, with which no text goes on.")
    static void promise04Syntax() {
        Due.fault(A + F + "a<1 sets a 1 ?;", 1, 35);
        Due.fault(A + F + "a<1 sets a 1 sets a 1;", 1, 35);
        Due.fault(A + F + "b<1 sets c d e;", 1, 35);
        Due.fault(A + F + "a<1 sets a 1", 1, 34);
        Due.fault("cell a 1", 1, 8);
        Due.fault("cell a 1 ", 1, 9);
        Due.fault("cell a 1 1;", 1, 9);
        Due.fault("copies 9 9;", 1, 9);
        Due.fault("x", 1, 0);
        Due.fault("stamp", 1, 0);
        Due.fault("else", 1, 0);
        Due.fault("a", 1, 0);
    }

    @Remark(promise = 4, terms = "I", says = "2 ROOM: a 401st TOKEN;")
    static void promise04Tokens400() {
        String most = "seed 1;".repeat(132);
        Due.fault(most + "cell a 1;", 0, NONE);
        Due.fault(most + "cell a 1;  \n", 0, NONE);
        Due.fault(most + "cell a 1;seed", 2, 933);
        Due.fault(most + "cell a 1; seed 1;seed 1;", 2, 934);
        Due.fault(most + "seed 1;cell", 1, 935);
        Due.fault(most + "seed 1;cell a 1;", 2, 936);
        String sum = A + F + "1<2 sets a 1";
        Due.fault(sum + "+1".repeat(193) + ";", 0, NONE);
        Due.fault(sum + "+1".repeat(193) + " ;;", 1, sum.length() + 388);
        Due.fault(sum + "+1".repeat(193) + ";cell", 2, sum.length() + 387);
        Due.fault(sum + "+1".repeat(194) + ";", 2, sum.length() + 387);
        Due.fault(sum + " " + "+1".repeat(192) + "+(1);", 2, sum.length() + 388);
        TentativeDesk d = new TentativeDesk();
        for (int times = 0; times < 4; times++) {
            Due.feed(d, sum + "+1".repeat(193) + ";");
            is(d.read(), 0);
            is(d.make(NONE, 0, 0, 0), 0);
            is(d.cell(0, 0, false), 194);
        }
    }

    @Remark(promise = 4, terms = "I", says = "one more of a sort than told (at its first TOKEN);")
    static void promise04OneMoreOfASort() {
        Due.fault(SIX_CELLS, 0, NONE);
        Due.fault(SIX_CELLS.substring(0, 45) + "cell", 1, 49);
        Due.fault(SIX_CELLS + " \ncell g 1;", 2, 56);
        Due.fault(SIX_CELLS + "cell", 2, 54);
        Due.fault(SIX_CELLS + "cell a 1;", 2, 54);
        Due.fault(SIX_CELLS + "cell ;", 2, 54);
        Due.fault(SIX_CELLS + "form g needs 1<2 sets a 1;cell h 1;", 2, 80);
        StringBuilder forms = new StringBuilder(SIX_CELLS);
        for (char name = 'p'; name < 'v'; name++) {
            forms.append("form ").append(name).append(" needs 1<2 sets f 1;");
        }
        Due.fault(forms.toString(), 0, NONE);
        Due.fault(forms + " form", 2, forms.length() + 1);
        Due.fault(forms + "form p needs 1<2 sets f 1;", 2, forms.length());
        Due.fault(forms + "form w needs (((((((", 2, forms.length());
        Due.fault("copies 2;".repeat(8) + "primary 1;".repeat(8) + "seed 1;".repeat(8), 0, NONE);
    }

    @Remark(promise = 4, terms = "I", says = "a 7th ( within one another (at it).")
    static void promise04SevenWithinOneAnother() {
        String f = A + F;
        Due.fault(f + "((((((1))))))<2 sets a 1;", 0, NONE);
        Due.fault(f + "(((((((1)))))))<2 sets a 1;", 2, 28);
        Due.fault(f + "( ( ( ( ( ( (", 2, 34);
        Due.fault(f + "((((((1))))))+((((((1))))))<((((((1)))))) sets a ((((((1)))))) else a ((((((1))))));", 0,
            NONE);
        Due.fault(f + "(1)+(2)+(3)+(4)+(5)+(6)+(7)+(8)<1 sets a 1;", 0, NONE);
        Due.fault(f + "((((((1)))))*((1)))<1 sets a 1;", 0, NONE);
        Due.fault(f + "((((((1)))))*(((1))))<1 sets a 1;", 0, NONE);
        Due.fault(f + "((((((1)))))*((((((1)))))))<1 sets a 1;", 2, 40);
        Due.fault(f + "1<2 sets a 1+(2*(3-(4/(5+(6*(7-(8)))))));", 2, 53);
        Due.fault(f + "1<2 sets a 1+(2*(3-(4/(5+(6*(7))))));", 0, NONE);
    }

    @Remark(promise = 4, terms = "I", says = "If there is none, likewise:")
    static void promise04SyntaxAndRoomAheadOfTheOthers() {
        Due.fault(A + A + "?", 1, 18);
        Due.fault("copies 9;" + SIX_CELLS + "cell", 2, 63);
        Due.fault(A + F + "b<2 sets a (((((((", 2, 39);
        Due.fault("primary 9;seed", 1, 14);
        Due.fault(A + A + "seed 1;".repeat(131), 2, A.length() * 2 + 7 * 130 + 6);
        Due.fault("primary 4;;", 1, 10);
        Due.fault("copies 0;copies 6;" + A + A, 5, 7);
    }

    @Remark(promise = 4, terms = "I", says = "3 TWICE: a NAME told already (of CELLS and FORMS together).")
    static void promise04Twice() {
        String f = "form f needs 1<2 sets a 1;";
        Due.fault(A + A, 3, 14);
        Due.fault(A + f + f, 3, 40);
        Due.fault(A + f + "cell f 1;", 3, 40);
        Due.fault(A + "form a needs 1<2 sets a 1;", 3, 14);
        Due.fault(A + "cell b 1;cell  a 1;", 3, 24);
        Due.fault(SIX_CELLS + "form f needs 1<2 sets a 1;", 3, 59);
        Due.fault("cell a 1;cell aa 1;cell aaa 1;" + f, 0, NONE);
        StringBuilder all = new StringBuilder(SIX_CELLS);
        for (char name = 'p'; name < 'u'; name++) {
            all.append("form ").append(name).append(" needs 1<2 sets f 1;");
        }
        Due.fault(all + "form u needs 1<2 sets f 1;", 0, NONE);
        Due.fault(all + "form t needs 1<2 sets f 1;", 3, all.length() + 5);
        Due.fault(all + "form a needs 1<2 sets f 1;", 3, all.length() + 5);
    }

    @Remark(promise = 4, terms = "I", says = "4 NAME: (at it) no such CELL told ahead")
    static void promise04NoSuchCell() {
        Due.fault(F + "a<1 sets a 1;" + A, 4, 13);
        Due.fault(A + F + "b<1 sets a 1;cell b 1;", 4, 22);
        Due.fault(A + F + "1<b sets a 1;", 4, 24);
        Due.fault(A + F + "1<2 sets b 1;", 4, 31);
        Due.fault(A + F + "1<2 sets a b;", 4, 33);
        Due.fault(A + F + "1<2 sets a 1 else b 1;", 4, 40);
        Due.fault(A + F + "1<2 sets a 1 else a 2*((1+b));", 4, 48);
        Due.fault(A + F + "f<1 sets a 1;", 4, 22);
        Due.fault(A + F + "1<2 sets a 1;form g needs f<2 sets a 1;", 4, 48);
        Due.fault(F + "1<2 sets f 1;", 4, 22);
        Due.fault("cell b 1;cell a 1;" + F + "b<a sets a b else b a;", 0, NONE);
    }

    @Remark(promise = 4, terms = "I", says = "(a NAME told more than once is that of the first one).")
    static void promise04ANameToldTwiceIsTheFirst() {
        Due.fault(F + "1<2 sets f 1;cell f 1;", 4, 22);
        Due.fault(A + F + "f<2 sets a 1;cell f 1;", 4, 22);
        Due.fault(A + "form a needs a<1 sets a 1;", 3, 14);
        Due.fault(A + "form a needs b<1 sets a 1;", 3, 14);
    }

    @Remark(promise = 4, terms = "I",
        says = "5 WRONG (at the INT): a number of COPIES, PRIMARY, SEED not as told above.")
    static void promise04WrongNumbers() {
        for (int n = 0; n < 8; n++) {
            boolean fine = n >= 1 && n <= 5;
            Due.fault("copies  " + n + ";", fine ? 0 : 5, fine ? NONE : 8);
            Due.fault("copies 5; primary\n" + n + ";", n < 5 ? 0 : 5, n < 5 ? NONE : 18);
        }
        Due.fault("copies 9999;", 5, 7);
        Due.fault("primary 9999;", 5, 8);
        Due.fault("copies 6;copies 5;", 5, 7);
        Due.fault("primary 5;primary 0;", 5, 8);
        Due.fault("seed 0;seed 9999;", 0, NONE);
        Due.fault("copies 0000;", 5, 7);
        Due.fault("copies 0;primary 0;", 5, 7);
    }

    @Remark(promise = 4, terms = "I", says = "6 PRIMARY (at the text's end): it is not below COPIES.")
    static void promise04PrimaryNotBelowCopies() {
        for (int copies = 1; copies <= 5; copies++) {
            for (int primary = 0; primary <= 4; primary++) {
                String text = "primary " + primary + ";copies " + copies + ";";
                Due.fault(text, primary < copies ? 0 : 6, primary < copies ? NONE : 19);
            }
        }
        Due.fault("primary 2;", 0, NONE);
        Due.fault("primary 3; ", 6, 11);
        Due.fault("copies 2;primary 1;copies 1;primary 0;", 0, NONE);
        Due.fault("copies 2;primary 1;copies 1;", 6, 28);
    }

    @Remark(promise = 4, terms = "I", says = "A text with a FAULT changes nothing but the tape;")
    static void promise04AFaultChangesNothing() {
        String[] faulty = {"copies 5;;", "copies 5;" + "seed 1;".repeat(140), SIX_CELLS + "cell g 1;",
            A + F + "(((((((1)))))))<1 sets a 1;", "copies 5;" + A + A, "copies 5;" + F + "b<1 sets b 1;", "copies 6;",
            "primary 5;", "primary 2;copies 2;", "copies 5;seed 7;cell"};
        for (String text : faulty) {
            Look.unchanged(Scene::busy, d -> {
                Due.feed(d, text);
                is(d.read() > 0, true);
                is(d.count(8), 0);
            });
        }
        TentativeDesk d = Due.told("copies 5;seed 44;");
        Due.feed(d, "copies 4;seed 45;copies 9;");
        is(d.read(), 5);
        for (int m = 0; m < 8; m++) {
            is(d.chance(1), m + 1);
            is(d.shut(0), Due.taker(5, 44, m));
        }
        d = Scene.told();
        is(d.hold(2), true);
        Due.feed(d, "copies 5;cell");
        is(d.read(), 1);
        is(d.restore(2), true);
        is(d.make(NONE, 1, 0, 6), 0);
        is(d.cell(1, 0, false), 7);
    }

    @Remark(promise = 4, terms = "I", says = "else it is in place of the one ahead: no WRITES,")
    static void promise04ATextBeginsAnew() {
        for (String text : new String[] {"", Scene.TEXT, "copies 5;primary 4;cell q 7;"}) {
            TentativeDesk d = new TentativeDesk();
            Scene.busy(d);
            Due.feed(d, text);
            is(d.read(), 0);
            is(d.count(3), 0);
            is(d.write(0, 0), NONE);
            is(d.log(1, 0), NONE);
            Look.same(d, Due.told(text));
        }
        TentativeDesk d = Due.told(SIX_CELLS + "form q needs 0<1 sets a 1 else b 2;primary 2;seed 9;");
        Due.feed(d, "cell q 4;" + F + "1<0 sets q 1;");
        is(d.read(), 0);
        is(d.count(1), 1);
        is(d.count(2), 1);
        is(d.count(5), 0);
        is(d.cell(0, 0, false), 4);
        is(d.cell(0, 1, false), 0);
        is(d.make(NONE, 0, 0, 0), 0);
        is(d.outcome(0, 0), 2);
        for (int times = 0; times < 4; times++) {
            for (int m = 0; m < 5; m++) {
                is(d.chance(1), m + 1);
                is(d.shut(0), Due.taker(3, 0, m));
            }
            Due.feed(d, times == 3 ? "" : "copies 3;");
            is(d.read(), 0);
            is(d.count(0), 3);
            is(d.count(1), 0);
            is(d.count(2), 0);
            is(d.count(5), 0);
            is(d.cell(0, 0, false), 0);
        }
    }

    @Remark(promise = 4, terms = "I", says = "nothing promised;")
    static void promise04ATextPromisesNothing() {
        TentativeDesk d = Scene.told();
        for (int session = 0; session < 4; session++) {
            is(d.promise(session, 15), true);
            is(d.make(session, 1, 0, 1), session);
            is(d.ask(session, 1, 0), 1);
            is(d.ask(session, 2, 0), 0);
        }
        is(d.read(), 0);
        for (int session = 0; session < 4; session++) {
            is(d.session(session, 0), 0);
            is(d.session(session, 1), 0);
            is(d.got(session), 0);
            is(d.of(session, 1, false), 0);
            is(d.of(session, 1, true), 0);
            is(d.may(session, true), 7);
        }
    }

    @Remark(promise = 13, terms = "I", says = "nothing can be undone,")
    static void promise13NothingOfAnotherTextIsUndone() {
        TentativeDesk d = Scene.told();
        is(d.make(NONE, 1, 0, 1), 0);
        is(d.meet(1, 2), 0);
        is(d.count(9), 2);
        Due.feed(d, "seed 3;");
        is(d.read(), 0);
        is(d.count(9), 0);
        is(d.undo(), false);
        is(d.count(3), 0);
    }

    @Remark(promise = 41, terms = "I", says = "SLOTS hold nothing.")
    static void promise41NothingOfAnotherTextIsHeld() {
        TentativeDesk d = Scene.told();
        is(d.hold(0) && d.hold(1) && d.hold(2), true);
        is(d.count(11), 3);
        Due.feed(d, Scene.TEXT);
        is(d.read(), 0);
        is(d.count(11), 0);
        for (int slot = 0; slot < 3; slot++) {
            is(d.restore(slot), false);
        }
        is(d.hold(1), true);
        is(d.restore(0), false);
        is(d.restore(2), false);
        is(d.restore(1), true);
    }

    // Promises 1 to 5.

    @Remark(promise = 1, says = "3 copies, no CELLS, no FORMS.")
    static void promise01ANewObject() {
        TentativeDesk d = new TentativeDesk();
        is(TentativeDesk.NONE, -1);
        is(d.place(), NONE);
        int[] counts = {3, 0, 0, 0, 0, 0, 0, 0, 0, 0, 1, 0, 0, 0, 0, 0, 0, 0, 0};
        for (int what = 0; what < counts.length; what++) {
            is(d.count(what), counts[what]);
        }
        is(d.cell(0, 0, false), 0);
        is(d.ask(0, 0, 0), NONE);
        is(d.make(NONE, 0, 0, 0), NONE);
        is(d.meet(0, 3), NONE);
        is(d.meet(0, 2), 0);
        is(d.count(12), 2);
        Look.same(new TentativeDesk(), Due.told("copies 3;primary 0;seed 0;"));
        d = new TentativeDesk();
        is(d.chance(1), 1);
        is(d.shut(0), Due.taker(3, 0, 0));
        is(d.shut(1), Due.giver(3, 0, 0));
    }

    @Remark(promise = 2, says = "Twenty bytes, the highest of a first, come behind the tape: how many it has.")
    static void promise02TwentyBytes() {
        TentativeDesk d = new TentativeDesk();
        is(d.feed(0x20202020, 0x20202020, 0x20202020, 0x20202020, 0x73656564), 20);
        is(d.feed(0x20313b63, 0x6f706965, 0x7320343b, 0x7072696d, 0x61727920), 40);
        is(d.feed(0x333b2020, 0x20202020, 0x20202020, 0x20202020, 0x20202020), 60);
        is(d.count(8), 60);
        is(d.read(), 0);
        is(d.count(0), 4);
        is(d.count(5), 3);
        for (int i = 0; i < 20; i++) {
            int[] five = {0x20202020, 0x20202020, 0x20202020, 0x20202020, 0x20202020};
            five[i / 4] ^= (0x20 ^ (i % 2 == 0 ? 0x3f : 0xff)) << 24 - 8 * (i % 4);
            is(d.feed(five[0], five[1], five[2], five[3], five[4]), 20);
            is(d.read(), 1);
            is(d.place(), i);
        }
        is(d.feed(0, 0, 0, 0, 0), 20);
        is(d.feed(-1, -1, -1, -1, -1), 40);
    }

    @Remark(promise = 2, says = "NONE, and nothing comes, if it would have more than 2,000.")
    static void promise02NothingComesBeyond2000() {
        TentativeDesk d = new TentativeDesk();
        Due.feed(d, "copies 5;primary 3;" + " ".repeat(1962));
        is(d.count(8), 1981);
        is(d.feed(0x3f3f3f3f, 0x3f3f3f3f, 0x3f3f3f3f, 0x3f3f3f3f, 0x3f3f3f3f), NONE);
        is(d.count(8), 1981);
        is(d.back(1), 1980);
        is(feedBlanks(d), 2000);
        is(d.feed(0x3f3f3f3f, 0x3f3f3f3f, 0x3f3f3f3f, 0x3f3f3f3f, 0x3f3f3f3f), NONE);
        is(d.count(8), 2000);
        is(d.read(), 0);
        is(d.count(5), 3);
        is(feedBlanks(d), 20);
        Look.unchanged(Scene::tapeFull, e -> is(feedBlanks(e), NONE));
    }

    @Remark(promise = 3, says = "The last n bytes of the tape go: how many it has.")
    static void promise03TheLastBytesGo() {
        TentativeDesk d = new TentativeDesk();
        is(d.back(0), 0);
        Due.feed(d, "copies 2;copies 4;?");
        is(d.back(0), 19);
        is(d.back(1), 18);
        is(d.back(9), 9);
        is(d.read(), 0);
        is(d.count(0), 2);
        Due.feed(d, "copies 4;");
        is(d.back(9), 0);
        is(d.read(), 0);
        is(d.count(0), 3);
        Due.feed(d, " ".repeat(2000));
        is(d.back(2000), 0);
        is(feedBlanks(d), 20);
        is(d.read(), 0);
        Due.feed(d, "cell");
        is(d.back(1), 3);
        is(d.read(), 1);
        is(d.place(), 0);
        Due.feed(d, "seed 12345");
        is(d.back(1), 9);
        is(d.read(), 1);
        is(d.place(), 9);
        Due.feed(d, "seed 1;;");
        is(d.back(1), 7);
        is(d.read(), 0);
    }

    @Remark(promise = 3, says = "NONE, and nothing goes, if it has not so many, or n is below 0.")
    static void promise03NothingGoes() {
        TentativeDesk d = new TentativeDesk();
        is(d.back(1), NONE);
        is(d.back(-1), NONE);
        Due.feed(d, "copies 4;");
        for (int n : new int[] {10, 11, 2000, 2001, MAX, -1, -9, MIN}) {
            is(d.back(n), NONE);
            is(d.count(8), 9);
        }
        is(d.read(), 0);
        is(d.count(0), 4);
        Look.unchanged(Scene::busy, e -> {
            is(e.back(e.count(8) + 1), NONE);
            is(e.back(-1), NONE);
        });
    }

    @Remark(promise = 4, says = "The tape, which is empty then, is read: 0, or the number of its FAULT.")
    static void promise04TheTapeIsEmptyThen() {
        TentativeDesk d = new TentativeDesk();
        is(d.read(), 0);
        Due.feed(d, "copies 4;");
        is(d.read(), 0);
        is(d.count(8), 0);
        is(d.back(1), NONE);
        is(d.read(), 0);
        is(d.count(0), 3);
        String[] faulty = {"?", SIX_CELLS + "cell", A + A, F + "b<1 sets b 1;", "copies 6;", "primary 3;"};
        for (int fault = 1; fault <= 6; fault++) {
            Due.feed(d, faulty[fault - 1]);
            is(d.read(), fault);
            is(d.count(8), 0);
            is(d.back(1), NONE);
            is(feedBlanks(d), 20);
            is(d.read(), 0);
        }
        Due.feed(d, " ".repeat(2000));
        is(d.read(), 0);
        is(d.count(8), 0);
    }

    @Remark(promise = 5, says = "The byte of the latest read()'s FAULT; NONE without.")
    static void promise05PlaceOfTheLatestRead() {
        TentativeDesk d = new TentativeDesk();
        is(d.place(), NONE);
        Due.feed(d, "?");
        is(d.place(), NONE);
        is(d.read(), 1);
        is(d.place(), 0);
        Due.feed(d, "seed 1;copies 6;");
        is(d.hold(0), true);
        is(d.place(), 0);
        is(d.read(), 5);
        is(d.place(), 14);
        is(d.restore(0), true);
        is(d.meet(0, 1), 0);
        is(d.undo(), true);
        is(d.place(), 14);
        is(d.read(), 0);
        is(d.place(), NONE);
    }
}
