/** For each promise: ordinary calls, the edges that the document names, and wrong inputs, by hand. */
public final class PromiseTest {
    private static final int NONE = -1;
    private static final int MIN = Integer.MIN_VALUE;
    private static final int MAX = Integer.MAX_VALUE;

    /** Forms: 0 add, 1 swap, 2 part, 3 never. */
    private static final String DESK = "copies 3; primary 0; seed 12; cell a 1; cell b 2;"
        + "form add needs a < 10 sets a a + x;"
        + "form swap needs a = x sets b stamp else b 0 - origin;"
        + "form part needs 1 / x < 5 sets a 9 / origin;"
        + "form never needs 1 < 0 sets a 5;";

    private PromiseTest() {
    }

    private static void due(String call, long got, long want) {
        Due.same(call, got, want);
    }

    private static void due(String call, boolean got, boolean want) {
        Due.same(call, got, want);
    }

    public static void main(String[] args) {
        promises1To3();
        promise4Syntax();
        promise4Room();
        promise4Later();
        promise4Takes();
        promise4Order();
        promise4Often();
        promise5();
        promise6();
        promise7And8();
        promise9();
        promise10();
        promise11();
        promise12();
        promise12Lots();
        promise13();
        promise14To16();
        promise16Worth();
        promise17And18();
        promise19And20();
        promise21And22();
        promise23();
        promises24To27();
        promise28();
        promise29And30();
        promise31();
        promise32To34();
        promise35();
        promise36();
        promise37();
        promise38And39();
        promise40And41();
        promise42();
        questionsChangeNothing();
        Due.end();
    }

    private static TentativeDesk desk() {
        return Due.told(DESK);
    }

    private static void promises1To3() {
        Due.about("promise 1");
        TentativeDesk d = new TentativeDesk();
        due("NONE", TentativeDesk.NONE, -1);
        due("count(0)", d.count(0), 3);
        for (int what = 1; what < 19; what++) {
            due("count(" + what + ")", d.count(what), what == 10 ? 1 : 0);
        }
        due("place()", d.place(), NONE);
        due("meet(2, 1)", d.meet(2, 1), 0);
        due("count(12)", d.count(12), 2);
        due("count(13)", d.count(13), 2);
        Due.about("promise 2");
        for (int i = 1; i <= 100; i++) {
            due("feed", d.feed(0x20202020, 0x09090909, 0x0a0a0a0a, 0x0d0d0d0d, 0x20202020), 20 * i);
        }
        due("feed", d.feed(0, 0, 0, 0, 0), NONE);
        due("count(8)", d.count(8), 2000);
        due("back(19)", d.back(19), 1981);
        due("feed", d.feed(0, 0, 0, 0, 0), NONE);
        due("count(8)", d.count(8), 1981);
        due("back(1)", d.back(1), 1980);
        due("feed", d.feed(0x636f7069, 0x65732035, 0x3b207365, 0x65642039, 0x3b202020), 2000);
        due("read()", d.read(), 0);
        due("count(0)", d.count(0), 5);
        due("count(8)", d.count(8), 0);
        Due.about("promise 3");
        due("back(1)", d.back(1), NONE);
        due("back(0)", d.back(0), 0);
        due("back(-1)", d.back(-1), NONE);
        Due.feed(d, "copies 2;copies 4;?");
        due("count(8)", d.count(8), 19);
        due("back(20)", d.back(20), NONE);
        due("back(MIN)", d.back(MIN), NONE);
        due("back(MAX)", d.back(MAX), NONE);
        due("count(8)", d.count(8), 19);
        due("back(0)", d.back(0), 19);
        due("back(1)", d.back(1), 18);
        due("back(9)", d.back(9), 9);
        due("read()", d.read(), 0);
        due("count(0)", d.count(0), 2);
        Due.feed(d, "x");
        due("back(1)", d.back(1), 0);
        due("read()", d.read(), 0);
    }

    private static void promise4Syntax() {
        Due.about("promise 4, SYNTAX");
        Due.fault("", 0, NONE);
        Due.fault(" \t\r\n ", 0, NONE);
        Due.fault("copies 3", 1, 8);
        Due.fault("copies 3 \n", 1, 10);
        Due.fault("copies;", 1, 6);
        Due.fault(";", 1, 0);
        Due.fault(" a", 1, 1);
        Due.fault("needs", 1, 0);
        Due.fault("copies 12345;", 1, 7);
        Due.fault("copies 00003;", 1, 7);
        Due.fault("copies 0003;", 0, NONE);
        Due.fault("copies3;cell a2;seed9999;", 0, NONE);
        Due.fault("copies 3;;", 1, 9);
        Due.fault("copies 3 3;", 1, 9);
        Due.fault("copies a;", 1, 7);
        Due.fault("seed 10000;", 1, 5);
        Due.fault("seed 0-1;", 1, 6);
        Due.fault("primary ;", 1, 8);
        Due.fault("cell abcdefghi 1;", 1, 5);
        Due.fault("cell abcdefgh 1;", 0, NONE);
        Due.fault("cell celll 1;", 0, NONE);
        String[] words = {"copies", "primary", "cell", "form", "needs", "sets", "else", "seed", "x", "stamp", "origin"};
        for (String word : words) {
            Due.fault("cell " + word + " 1;", 1, 5);
            Due.fault("cell " + word + "e 1;", 0, NONE);
        }
        Due.fault("cell a 1;!", 1, 9);
        Due.fault("cell A 1;", 1, 5);
        Due.fault("cell a_b 1;", 1, 6);
        Due.fault("cell \u00e9 1;", 1, 5);
        Due.fault("\u0000", 1, 0);
        Due.fault(" \u000b", 1, 1);
        Due.fault(" \f", 1, 1);
        Due.fault("cell a 1;\u00a0", 1, 9);
        Due.fault("cell a <;", 1, 7);
        String form = "cell a 1;form f ";
        Due.fault(form + "sets a 1;", 1, 16);
        Due.fault(form + "needs < 1 sets a 1;", 1, 22);
        Due.fault(form + "needs 1 > 1 sets a 1;", 1, 24);
        Due.fault(form + "needs 1 1 sets a 1;", 1, 24);
        Due.fault(form + "needs 1 < sets a 1;", 1, 26);
        Due.fault(form + "needs 1 < 2 < 3 sets a 1;", 1, 28);
        Due.fault(form + "needs 1 < 2 else a 1;", 1, 28);
        Due.fault(form + "needs 1 < 2 sets 1;", 1, 33);
        Due.fault(form + "needs 1 < 2 sets a;", 1, 34);
        Due.fault(form + "needs 1 < 2 sets a 1 2;", 1, 37);
        Due.fault(form + "needs 1 < 2 sets a 1 else;", 1, 41);
        Due.fault(form + "needs 1 < 2 sets a 1 else a;", 1, 43);
        Due.fault(form + "needs 1 < 2 sets a 1 else a 2 else a 3;", 1, 46);
        Due.fault(form + "needs 1 < 2 sets a 1+;", 1, 37);
        Due.fault(form + "needs 1 < 2 sets a 1+*2;", 1, 37);
        Due.fault(form + "needs 1 < 2 sets a -1;", 1, 35);
        Due.fault(form + "needs (1 < 2) sets a 1;", 1, 25);
        Due.fault(form + "needs 1) < 2 sets a 1;", 1, 23);
        Due.fault(form + "needs () < 2 sets a 1;", 1, 23);
        Due.fault(form + "needs 2(3) < 2 sets a 1;", 1, 23);
        Due.fault(form + "needs (1", 1, 24);
    }

    private static String repeat(String text, int times) {
        StringBuilder s = new StringBuilder();
        for (int i = 0; i < times; i++) {
            s.append(text);
        }
        return s.toString();
    }

    private static void promise4Room() {
        Due.about("promise 4, ROOM");
        String seeds = repeat("seed 1;", 132);
        Due.fault(seeds + "cell a 1;", 0, NONE);
        Due.fault(seeds + "cell a 1;cell b 1;", 2, 933);
        Due.fault(seeds + "cell a 1;9", 1, 933);
        Due.fault(seeds + "seed 1;cell a 1;", 2, 936);
        Due.fault(seeds + "seed 1;cell ; 1;", 1, 936);
        Due.fault(seeds + "seed 1;cell ? 1;", 1, 936);
        Due.fault(seeds + "seed 1;cell abcdefghi", 1, 936);
        Due.fault(seeds + "seed 1;cell", 1, 935);
        Due.fault(seeds + "seed 1;seed 2;?", 2, 936);
        Due.fault("copies 9;" + seeds + "cell a 1;", 2, 938);
        String sums = "cell a 1;form f needs 1<2 sets a 1";
        Due.fault(sums + repeat("+1", 193) + ";", 0, NONE);
        Due.fault(sums + repeat("+1", 194) + ";", 2, 34 + 2 * 194 - 1);
        String six = "cell a 1;cell b 1;cell c 1;cell d 1;cell e 1;cell f 1;";
        Due.fault(six, 0, NONE);
        Due.fault(six + "cell g 1;", 2, 54);
        Due.fault(six + "cell", 2, 54);
        Due.fault(six + " cell a 1;", 2, 55);
        Due.fault(six + "copies 9;cell;", 2, 63);
        Due.fault(six + ";cell g 1;", 1, 54);
        Due.fault(repeat("cell a 1;", 7), 2, 54);
        Due.fault(repeat("cell a 1;", 6), 3, 14);
        String forms = "cell z 1;";
        for (char c = 'a'; c < 'g'; c++) {
            forms += "form " + c + " needs 1<2 sets z 1;";
        }
        Due.fault(forms, 0, NONE);
        Due.fault(forms + "form", 2, forms.length());
        Due.fault(forms + "form a needs 1<2 sets z 1;", 2, forms.length());
        String nest = "cell a 1;form f needs ";
        Due.fault(nest + "((((((1))))))<2 sets a 1;", 0, NONE);
        Due.fault(nest + "(((((((1)))))))<2 sets a 1;", 2, 28);
        Due.fault(nest + "((((((1*(", 2, 30);
        Due.fault(nest + "((((((1(", 1, 29);
        Due.fault(nest + "((((((1))))))*((((((1))))))<((((((2)))))) sets a ((((((1)))))) else a ((((((1))))));", 0,
            NONE);
        Due.fault(nest + "1<2 sets a 1+(2*(3-(4/(5+(6*(7))))));", 0, NONE);
    }

    private static void promise4Later() {
        Due.about("promise 4, the others");
        Due.fault("cell a 1;cell a 2;", 3, 14);
        Due.fault("cell a 1;cell ab 2;cell  b 1;", 0, NONE);
        Due.fault("cell a 1;form a needs 1<2 sets a 1;", 3, 14);
        Due.fault("cell a 1;form f needs 1<2 sets a 1;form f needs 1<2 sets a 1;", 3, 40);
        Due.fault("cell a 1;form f needs 1<2 sets a 1;cell f 1;", 3, 40);
        Due.fault("form f needs a<1 sets a 1;cell a 1;", 4, 13);
        String form = "cell a 1;form f needs ";
        Due.fault(form + "f<1 sets a 1;", 4, 22);
        Due.fault(form + "b<1 sets a 1;", 4, 22);
        Due.fault(form + "1<b sets a 1;", 4, 24);
        Due.fault(form + "1<2 sets b 1;", 4, 31);
        Due.fault(form + "1<2 sets a b;", 4, 33);
        Due.fault(form + "1<2 sets a 1 else b 1;", 4, 40);
        Due.fault(form + "1<2 sets a 1 else a (1+b);", 4, 45);
        Due.fault(form + "1<2 sets a 1 else aa 1;cell aa 1;", 4, 40);
        Due.fault(form + "1<2 sets f 1;", 4, 31);
        Due.fault("copies 0;", 5, 7);
        Due.fault("copies 1;", 0, NONE);
        Due.fault("copies 5;", 0, NONE);
        Due.fault("copies 6;", 5, 7);
        Due.fault("copies 9999;copies 2;", 5, 7);
        Due.fault("copies 5;primary 4;", 0, NONE);
        Due.fault("copies 5;primary 5;", 5, 17);
        Due.fault("primary 5;primary 0;", 5, 8);
        Due.fault("seed 0;seed 9999;", 0, NONE);
        Due.fault("primary 3;", 6, 10);
        Due.fault("primary 2;", 0, NONE);
        Due.fault("primary 3; copies 3; ", 6, 21);
        Due.fault("primary 3;copies 4;", 0, NONE);
        Due.fault("copies 5;primary 4;copies 4;", 6, 28);
        Due.fault("copies 1;primary 1;primary 0;", 0, NONE);
        Due.fault("copies 9;cell a 1;cell a 1;", 5, 7);
        Due.fault("cell a 1;cell a 1;copies 9;", 3, 14);
        Due.fault("primary 4;cell a 1;cell a 1;", 3, 24);
        Due.fault("copies 9;cell a 1;cell a 1;cell", 1, 31);
        Due.fault("cell a 1;form f needs b<1 sets a 1;cell a 1;", 4, 22);
    }

    /** A text with a fault changes nothing but the tape; one without takes the place of all. */
    private static void promise4Takes() {
        Due.about("promise 4, what it changes");
        TentativeDesk d = desk();
        due("promise(1, 5)", d.promise(1, 5), true);
        due("make", d.make(1, 1, 0, 3), 0);
        due("ask", d.ask(1, 1, 0), 1);
        due("make refused", d.make(1, 2, 0, 3), -2);
        due("meet", d.meet(1, 0), 0);
        due("chance(3)", d.chance(3), 3);
        due("lead", d.lead(2) || d.lead(1), true);
        due("hold(1)", d.hold(1), true);
        int leads = d.count(5);
        int opened = d.count(12);
        Due.feed(d, "copies 2;cell c 5;cell c 6;");
        due("read()", d.read(), 3);
        due("count(8)", d.count(8), 0);
        due("count(0)", d.count(0), 3);
        due("count(1)", d.count(1), 2);
        due("count(2)", d.count(2), 4);
        due("count(3)", d.count(3), 1);
        due("count(5)", d.count(5), leads);
        due("count(9)", d.count(9), 7);
        due("count(11)", d.count(11), 1);
        due("count(12)", d.count(12), opened);
        due("cell(1, 0)", d.cell(1, 0, false), 4);
        due("cell(1, 1)", d.cell(1, 1, false), 2);
        due("got(1)", d.got(1), 4);
        Due.feed(d, "copies 4;cell c 5;primary 3;");
        due("read()", d.read(), 0);
        int[] fresh = {4, 1, 0, 0, 0, 3, 0, 0, 0, 0, 1, 0, 0, 0, 0, 0, 0, 0, 0};
        for (int what = 0; what < fresh.length; what++) {
            due("count(" + what + ")", d.count(what), fresh[what]);
        }
        due("cell(3, 0, true)", d.cell(3, 0, true), 5);
        due("session(1, 0)", d.session(1, 0), 0);
        due("session(1, 1)", d.session(1, 1), 0);
        due("got(1)", d.got(1), 0);
        due("of(1, 1, true)", d.of(1, 1, true), 0);
        due("of(1, 1, false)", d.of(1, 1, false), 0);
        due("shut(0)", d.shut(0), -2);
        due("undo()", d.undo(), false);
        due("restore(1)", d.restore(1), false);
        due("read() of nothing", d.read(), 0);
        due("count(0)", d.count(0), 3);
        due("count(5)", d.count(5), 0);
        due("count(1)", d.count(1), 0);
    }

    private static void promise4Order() {
        Due.about("promise 4, CELLS and FORMS as they stand");
        TentativeDesk d = Due.told("cell b 7;form two needs 0<1 sets b 2;copies 2;cell a 0009;"
            + "form one needs 0<1 sets a 1;copies 4;primary 2;primary 1;");
        due("count(0)", d.count(0), 4);
        due("count(5)", d.count(5), 1);
        due("cell 0", d.cell(0, 0, false), 7);
        due("cell 1", d.cell(0, 1, false), 9);
        due("make", d.make(NONE, 1, 1, 0), 0);
        due("cell 0", d.cell(1, 0, false), 7);
        due("cell 1", d.cell(1, 1, false), 1);
        due("make", d.make(NONE, 1, 0, 0), 1);
        due("cell 0", d.cell(1, 0, false), 2);
    }

    /** A text is read as if none had been read ahead of it. */
    private static void promise4Often() {
        Due.about("promise 4, text after text");
        TentativeDesk d = new TentativeDesk();
        for (int i = 0; i < 6; i++) {
            Due.feed(d, "copies 5;primary 4;seed 77;cell a 1;cell b 2;form f needs 0<1 sets a 1" + repeat("+1", 150)
                + " else b 1;");
            due("read()", d.read(), 0);
            due("count(0)", d.count(0), 5);
            due("count(5)", d.count(5), 4);
            due("make", d.make(NONE, 4, 0, 0), 0);
            due("cell", d.cell(4, 0, true), 151);
        }
        for (int i = 0; i < 3; i++) {
            due("read() of nothing", d.read(), 0);
            int[] fresh = {3, 0, 0, 0, 0, 0};
            for (int what = 0; what < fresh.length; what++) {
                due("count(" + what + ")", d.count(what), fresh[what]);
            }
            for (int m = 0; m < 5; m++) {
                due("chance(1)", d.chance(1), m + 1);
                due("shut(1) by seed 0", d.shut(1), lot(3, 0, 2 * m));
            }
            Due.feed(d, "cell a 1;form f needs 0<1 sets a 1;");
            due("read()", d.read(), 0);
            due("place()", d.place(), NONE);
            Due.feed(d, "cell f 1;form a needs 0<1 sets f 1;form g needs 1<0 sets f 1;");
            due("read()", d.read(), 0);
            due("make", d.make(NONE, 0, 1, 1), 0);
            due("idle without else", d.outcome(0, 0), 2);
        }
    }

    private static void promise5() {
        Due.about("promise 5");
        TentativeDesk d = new TentativeDesk();
        due("place()", d.place(), NONE);
        Due.feed(d, "seed 1; copies 7;");
        due("place()", d.place(), NONE);
        due("read()", d.read(), 5);
        due("place()", d.place(), 15);
        due("place()", d.place(), 15);
        Due.feed(d, "seed 1;");
        due("place()", d.place(), 15);
        due("read()", d.read(), 0);
        due("place()", d.place(), NONE);
        Due.fault(repeat("seed 1; ", 100) + repeat(" ", 1199) + "?", 1, 1999);
        Due.fault(repeat("seed 1; ", 100) + "primary 4;" + repeat(" ", 1190), 6, 2000);
    }

    private static void promise6() {
        Due.about("promise 6");
        TentativeDesk d = desk();
        due("no session", d.make(-2, 0, 0, 1), NONE);
        due("no session", d.make(4, 0, 0, 1), NONE);
        due("no copy", d.make(0, 3, 0, 1), NONE);
        due("no copy", d.make(0, -1, 0, 1), NONE);
        due("no form", d.make(0, 0, 4, 1), NONE);
        due("no form", d.make(0, 0, -1, 1), NONE);
        due("count(9)", d.count(9), 0);
        due("count(12)", d.count(12), 0);
        due("make", d.make(NONE, 1, 0, MAX), 0);
        due("make", d.make(3, 1, 0, MIN), 1);
        due("make", d.make(0, 2, 3, 0), 2);
        due("count(3)", d.count(3), 3);
        due("of(3, 1, true)", d.of(3, 1, true), 2);
        due("of(0, 2, true)", d.of(0, 2, true), 1);
        due("of(0, 1, true)", d.of(0, 1, true), 0);
        due("count(4)", d.count(4), 0);
        due("make at the primary", d.make(1, 0, 0, 2), 3);
        due("count(4)", d.count(4), 1);
        due("promise", d.promise(3, 8), true);
        due("refused", d.make(3, 2, 0, 2), -2);
        due("session(3, 1)", d.session(3, 1), 1);
        due("copy(2, 5)", d.copy(2, 5), 2);
        due("copy(2, 6)", d.copy(2, 6), 2);
        due("refused, no form", d.make(3, 2, 4, 2), NONE);
        due("session(3, 1)", d.session(3, 1), 1);
        due("count(3)", d.count(3), 4);
        for (int i = 4; i < 60; i++) {
            due("make", d.make(NONE, 0, 3, i), i);
        }
        due("FULL", d.make(0, 0, 3, 1), NONE);
        due("FULL", d.make(NONE, 1, 0, 1), NONE);
        due("of(0, 0, true)", d.of(0, 0, true), 0);
        due("session(0, 1)", d.session(0, 1), 0);
        due("copy(1, 5)", d.copy(1, 5), 3);
        due("copy(1, 1)", d.copy(1, 1), 2);
        due("refused ahead of FULL", d.make(3, 2, 0, 1), -2);
        due("session(3, 1)", d.session(3, 1), 2);
        due("shut(0)", d.shut(0), 2);
        due("undo()", d.undo(), true);
        due("undo() of FULL", d.undo(), true);
        due("copy(1, 5)", d.copy(1, 5), 2);
        due("undo() of FULL", d.undo(), true);
        due("count(3)", d.count(3), 60);
        due("undo()", d.undo(), true);
        due("count(3)", d.count(3), 59);
    }

    private static void promise7And8() {
        Due.about("promises 7, 8");
        TentativeDesk d = desk();
        due("got(0)", d.got(0), 0);
        due("got(-1)", d.got(NONE), 0);
        due("got(4)", d.got(4), 0);
        due("no session", d.ask(NONE, 0, 0), NONE);
        due("no session", d.ask(4, 0, 0), NONE);
        due("no copy", d.ask(0, 3, 0), NONE);
        due("no copy", d.ask(0, -1, 0), NONE);
        due("no cell", d.ask(0, 0, 2), NONE);
        due("no cell", d.ask(0, 0, -1), NONE);
        due("count(12)", d.count(12), 0);
        due("count(9)", d.count(9), 0);
        due("ask", d.ask(0, 0, 1), 1);
        due("got(0)", d.got(0), 2);
        due("got(1)", d.got(1), 0);
        due("make", d.make(0, 1, 0, 4), 0);
        due("make", d.make(NONE, 1, 1, 9), 1);
        due("ask for the time being", d.ask(0, 1, 0), 1);
        due("got(0)", d.got(0), 5);
        due("of(0, 1, false)", d.of(0, 1, false), 2);
        due("of(0, 1, true)", d.of(0, 1, true), 1);
        due("copy(1, 5)", d.copy(1, 5), 3);
        due("ask behind, nothing promised", d.ask(0, 2, 0), 1);
        due("got(0)", d.got(0), 1);
        due("SEEN goes not down", d.of(0, 1, false), 2);
        due("promise its own", d.promise(0, 1), true);
        due("refused", d.ask(0, 2, 1), 0);
        due("got(0)", d.got(0), 1);
        due("session(0, 1)", d.session(0, 1), 1);
        due("copy(2, 5)", d.copy(2, 5), 2);
        due("copy(2, 6)", d.copy(2, 6), 2);
        due("promise not back", d.promise(0, 2), true);
        due("refused", d.ask(0, 0, 1), 0);
        due("promise of writes", d.promise(0, 12), true);
        due("not refused", d.ask(0, 0, 1), 1);
        due("session 1", d.promise(1, 1), true);
        due("it has no writes", d.ask(1, 0, 0), 1);
        due("it reads", d.ask(1, 1, 1), 1);
        due("got(1)", d.got(1), -1);
        due("goes back", d.ask(1, 2, 0), 1);
        due("session 1", d.promise(1, 2), true);
        due("refused", d.ask(1, 2, 0), 0);
        due("session 2 writes", d.make(2, 1, 3, 0), 2);
        due("session 2", d.promise(2, 2), true);
        due("it has seen none", d.ask(2, 2, 0), 1);
        due("session 2", d.promise(2, 1), true);
        due("refused", d.ask(2, 2, 0), 0);
        due("meet", d.meet(1, 2), 0);
        due("not refused", d.ask(2, 2, 0), 1);
        due("got(2)", d.got(2), 5);
        due("count(16)", d.count(16), 4);
        due("undo()", d.undo(), true);
        due("got(2)", d.got(2), 1);
    }

    private static void promise9() {
        Due.about("promise 9");
        TentativeDesk d = desk();
        due("so already", d.promise(0, 0), false);
        due("too many", d.promise(0, 16), false);
        due("too few", d.promise(0, -1), false);
        due("no session", d.promise(4, 1), false);
        due("no session", d.promise(NONE, 1), false);
        due("count(9)", d.count(9), 0);
        due("promise", d.promise(3, 15), true);
        due("so already", d.promise(3, 15), false);
        due("session(3, 0)", d.session(3, 0), 15);
        due("session(2, 0)", d.session(2, 0), 0);
        due("promise", d.promise(3, 1), true);
        due("session(3, 0)", d.session(3, 0), 1);
        due("count(9)", d.count(9), 2);
        due("count(12)", d.count(12), 0);
        due("undo()", d.undo(), true);
        due("session(3, 0)", d.session(3, 0), 15);
        due("promise", d.promise(3, 0), true);
        due("session(3, 0)", d.session(3, 0), 0);
    }

    private static void promise10() {
        Due.about("promise 10");
        TentativeDesk d = desk();
        due("one and the same", d.meet(1, 1), NONE);
        due("no copy", d.meet(3, 1), NONE);
        due("no copy", d.meet(1, 3), NONE);
        due("no copy", d.meet(-1, 1), NONE);
        due("no copy", d.meet(1, -1), NONE);
        due("count(9)", d.count(9), 0);
        due("count(12)", d.count(12), 0);
        due("make", d.make(NONE, 2, 0, 1), 0);
        due("make", d.make(NONE, 2, 0, 1), 1);
        due("make", d.make(NONE, 1, 0, 2), 2);
        due("make", d.make(NONE, 1, 0, 2), 3);
        due("make", d.make(NONE, 1, 0, 2), 4);
        due("1: (2 3 4), 2: (0 1)", d.meet(1, 2), 2);
        due("copy(2, 3)", d.copy(2, 3), 2);
        due("copy(2, 4)", d.copy(2, 4), 5);
        due("copy(1, 3)", d.copy(1, 3), 0);
        int[] log = {2, 0, 3, 1, 4};
        for (int i = 0; i < 5; i++) {
            due("log(2, " + i + ")", d.log(2, i), log[i]);
        }
        due("again", d.meet(1, 2), 0);
        due("copy(2, 4)", d.copy(2, 4), 5);
        due("CLOCK", d.copy(2, 0), 3);
        due("make", d.make(NONE, 0, 0, 1), 5);
        due("primary with a late one", d.meet(2, 0), 0);
        due("count(4)", d.count(4), 6);
        due("copy(0, 4)", d.copy(0, 4), 5);
        due("to 1: (5 2 0 3 1 4)", d.meet(0, 1), 3);
        due("copy(1, 2)", d.copy(1, 2), 6);
        due("copy(1, 3)", d.copy(1, 3), 3);
        due("copy(1, 4)", d.copy(1, 4), 6);
        due("make", d.make(NONE, 2, 0, 1), 6);
        due("to 2 from 1", d.meet(1, 2), 6);
        due("copy(2, 3)", d.copy(2, 3), 8);
        due("copy(2, 4)", d.copy(2, 4), 12);
        due("log(2, 6)", d.log(2, 6), 6);
        due("copy(2, 2)", d.copy(2, 2), 6);
        due("from one that knows fewer", d.meet(2, 1), 0);
        due("copy(1, 4)", d.copy(1, 4), 7);
        due("copy(1, 2)", d.copy(1, 2), 6);
        due("to the primary from one with all it has", d.meet(1, 0), 0);
        due("count(4)", d.count(4), 7);
        due("shut(0)", d.shut(0), 0);
        due("shut(1)", d.shut(1), 1);
    }

    private static void promise11() {
        Due.about("promise 11");
        TentativeDesk d = desk();
        due("it is", d.lead(0), false);
        due("no copy", d.lead(3), false);
        due("no copy", d.lead(-1), false);
        due("count(9)", d.count(9), 0);
        due("make", d.make(NONE, 0, 0, 1), 0);
        due("make", d.make(NONE, 1, 0, 1), 1);
        due("it knows not all", d.lead(1), false);
        due("count(12)", d.count(12), 2);
        due("meet", d.meet(0, 1), 1);
        due("lead", d.lead(1), true);
        due("count(5)", d.count(5), 1);
        due("shut(0)", d.shut(0), 1);
        due("copy(1, 5)", d.copy(1, 5), 3);
        due("copy(0, 5)", d.copy(0, 5), 2);
        due("leading gives no place", d.count(4), 1);
        due("a meeting that brings none gives none", d.meet(0, 1), 0);
        due("count(4)", d.count(4), 1);
        due("write(1, 3)", d.write(1, 3), -2);
        due("make at 0, which leads no more", d.make(NONE, 0, 0, 1), 2);
        due("count(4)", d.count(4), 1);
        due("meet", d.meet(0, 1), 0);
        due("count(4)", d.count(4), 3);
        due("write(1, 3)", d.write(1, 3), 1);
        due("write(2, 3)", d.write(2, 3), 2);
        due("it knows not all", d.lead(0), false);
        due("undo() of a meeting", d.undo(), true);
        due("it knows all again", d.lead(0), true);
        due("back", d.lead(1), true);
        due("make there", d.make(NONE, 1, 0, 1), 3);
        due("count(4)", d.count(4), 3);
        due("write(1, 3)", d.write(1, 3), 1);
        due("write(3, 3)", d.write(3, 3), 2);
        due("write(2, 3)", d.write(2, 3), -2);
    }

    private static void promise12() {
        Due.about("promise 12");
        TentativeDesk d = desk();
        due("chance(-1)", d.chance(-1), NONE);
        due("chance(61)", d.chance(61), NONE);
        due("chance(0)", d.chance(0), 0);
        due("count(9)", d.count(9), 0);
        due("chance(60)", d.chance(60), 60);
        due("count(9)", d.count(9), 1);
        due("count(12)", d.count(12), 120);
        due("count(13)", d.count(13), 120);
        due("chance(1)", d.chance(1), 61);
        due("chance(0)", d.chance(0), 61);
        due("count(9)", d.count(9), 2);
        due("count(6)", d.count(6), 61);
        due("undo()", d.undo(), true);
        due("count(6)", d.count(6), 60);
        due("undo()", d.undo(), true);
        due("count(6)", d.count(6), 0);
        due("count(12)", d.count(12), 0);
        d = Due.told("copies 1;cell a 1;form f needs 0<1 sets a 2;");
        due("one copy alone", d.chance(7), 7);
        due("count(12)", d.count(12), 0);
        due("shut(0)", d.shut(0), -2);
        due("count(9)", d.count(9), 1);
        due("soon()", d.soon(), 0);
    }

    /** The lots by the words, for five copies and many meetings. */
    private static void promise12Lots() {
        Due.about("promise 12, LOTS");
        for (int copies = 2; copies <= 5; copies++) {
            int seed = copies * 1999;
            TentativeDesk d = Due.told("copies " + copies + ";seed " + seed + ";");
            for (int m = 0; m < 40; m++) {
                int a = lot(copies, seed, 2 * m);
                int b = (a + 1 + lot(copies - 1, seed, 2 * m + 1)) % copies;
                due("chance(1)", d.chance(1), m + 1);
                due("shut(0) of " + m, d.shut(0), b);
                due("shut(1) of " + m, d.shut(1), a);
            }
        }
    }

    private static int lot(int n, int seed, int which) {
        long h = seed;
        for (int i = 0; i < 2; i++) {
            h = h ^ (i == 0 ? 223 : which);
            h = (h * 1103515245L + 12345L) & 0xffffffffL;
            h = h ^ h / 32768;
        }
        return (int) (h / 2 % n);
    }

    private static void promise13() {
        Due.about("promise 13");
        TentativeDesk d = desk();
        due("undo()", d.undo(), false);
        for (int i = 0; i < 45; i++) {
            due("make", d.make(NONE, i % 3, 0, 1), i);
        }
        due("count(9)", d.count(9), 40);
        for (int i = 44; i >= 5; i--) {
            due("undo()", d.undo(), true);
            due("count(3)", d.count(3), i);
            due("count(9)", d.count(9), i - 5);
        }
        due("undo()", d.undo(), false);
        due("count(3)", d.count(3), 5);
        due("log(0, 1)", d.log(0, 1), 3);
        due("make instead", d.make(NONE, 2, 1, 8), 5);
        due("write(5, 1)", d.write(5, 1), 2);
        due("with(5)", d.with(5), 8);
        due("meet", d.meet(2, 0), 0);
        due("undo()", d.undo(), true);
        due("copy(0, 1)", d.copy(0, 1), 2);
        due("copy(0, 4)", d.copy(0, 4), 0);
        due("count(4)", d.count(4), 2);
        due("undo()", d.undo(), true);
        due("promise", d.promise(0, 4), true);
        due("ask", d.ask(0, 1, 0), 1);
        due("make refused", d.make(0, 0, 0, 1), -2);
        due("undo() of REFUSED", d.undo(), true);
        due("session(0, 1)", d.session(0, 1), 0);
        due("copy(0, 5)", d.copy(0, 5), 2);
        due("undo() of ask", d.undo(), true);
        due("got(0)", d.got(0), 0);
        due("of(0, 1, false)", d.of(0, 1, false), 0);
        due("undo() of promise", d.undo(), true);
        due("session(0, 0)", d.session(0, 0), 0);
        due("make", d.make(0, 1, 0, 1), 5);
        due("promise", d.promise(0, 1), true);
        due("ask refused", d.ask(0, 0, 0), 0);
        due("count(16)", d.count(16), 1);
        due("undo() of ask refused", d.undo(), true);
        due("count(16)", d.count(16), 0);
        due("undo()", d.undo(), true);
        due("undo() of a make by a session", d.undo(), true);
        due("of(0, 1, true)", d.of(0, 1, true), 0);
    }

    private static void promise14To16() {
        Due.about("promises 14 to 16");
        TentativeDesk d = desk();
        due("cell", d.cell(0, 0, false), 1);
        due("cell", d.cell(2, 1, true), 2);
        due("no cell", d.cell(0, 2, false), 0);
        due("no cell", d.cell(0, -1, true), 0);
        due("no copy", d.cell(3, 0, false), 0);
        due("no copy", d.cell(-1, 0, false), 0);
        due("make add 4 at 1", d.make(NONE, 1, 0, 4), 0);
        due("make swap 9 at 1", d.make(NONE, 1, 1, 9), 1);
        due("make part 0 at 1", d.make(NONE, 1, 2, 0), 2);
        due("make never at 1", d.make(NONE, 1, 3, 0), 3);
        due("make add 20 at 0", d.make(NONE, 0, 0, 20), 4);
        due("make add 1 at 0", d.make(NONE, 0, 0, 1), 5);
        due("cell(1, 0)", d.cell(1, 0, false), 5);
        due("cell(1, 0, good)", d.cell(1, 0, true), 1);
        due("cell(1, 1)", d.cell(1, 1, false), -1);
        due("cell(0, 0, good)", d.cell(0, 0, true), 21);
        int[] outcomes = {0, 1, 3, 2};
        for (int i = 0; i < 4; i++) {
            due("outcome(1, " + i + ")", d.outcome(1, i), outcomes[i]);
            due("outcome(0, " + i + ")", d.outcome(0, i), -2);
        }
        due("outcome(0, 5)", d.outcome(0, 5), 2);
        due("meet", d.meet(0, 1), 4);
        int[] log = {4, 5, 0, 1, 2, 3};
        int[] out = {0, 2, 2, 1, 3, 2};
        for (int i = 0; i < 6; i++) {
            due("log(1, " + i + ")", d.log(1, i), log[i]);
            due("outcome(1, " + log[i] + ")", d.outcome(1, log[i]), out[i]);
        }
        due("log(1, 6)", d.log(1, 6), NONE);
        due("log(1, -1)", d.log(1, -1), NONE);
        due("log(3, 0)", d.log(3, 0), NONE);
        due("log(-1, 0)", d.log(-1, 0), NONE);
        due("cell(1, 1, good)", d.cell(1, 1, true), 2);
        due("cell(1, 1)", d.cell(1, 1, false), -1);
        due("cell(1, 0, good)", d.cell(1, 0, true), 21);
        due("outcome(1, 6)", d.outcome(1, 6), NONE);
        due("outcome(1, -1)", d.outcome(1, -1), NONE);
        due("outcome(3, 0)", d.outcome(3, 0), NONE);
        due("outcome(-1, 0)", d.outcome(-1, 0), NONE);
        due("swap 21 at 1 is SET", d.make(NONE, 1, 1, 21), 6);
        due("outcome(1, 6)", d.outcome(1, 6), 0);
        due("cell(1, 1)", d.cell(1, 1, false), 5);
        due("part 1 at 2", d.make(NONE, 2, 2, 1), 7);
        due("cell(2, 0)", d.cell(2, 0, false), 4);
        due("part 1 at 0", d.make(NONE, 0, 2, 1), 8);
        due("outcome(0, 8), 9 / 0", d.outcome(0, 8), 3);
        due("cell(0, 0)", d.cell(0, 0, false), 21);
    }

    /** What an expression is worth, told by what it sets. */
    private static void promise16Worth() {
        Due.about("promise 16, E's");
        worth("1+2*3", 0, 7);
        worth("(1+2)*3", 0, 9);
        worth("20-3-2", 0, 15);
        worth("20-(3-2)", 0, 19);
        worth("20-3-2*4/3", 0, 15);
        worth("7/2*2", 0, 6);
        worth("7*2/2", 0, 7);
        worth("7/(2*2)", 0, 1);
        worth("64/4/2", 0, 8);
        worth("64/(4/2)", 0, 32);
        worth("2*3+4*5-6/2", 0, 23);
        worth("(0-7)/2", 0, -3);
        worth("7/(0-2)", 0, -3);
        worth("x/(0-1)", MIN, MIN);
        worth("x+1", MAX, MIN);
        worth("x-2", MIN, MAX - 1);
        worth("x*x", 65536, 0);
        worth("x*3", MAX, MAX - 2);
        worth("stamp*10+origin", 0, 12);
        worth("a*b", 0, 12);
        worth("((((((x))))))*(2+(3*(4-(1+(2/(2))))))", 3, 24);
        worth("9999", 0, 9999);
        stuck("1/0");
        stuck("0*(1/(x-x))");
        stuck("0/0+1");
        TentativeDesk d = Due.told("cell a 3;form f needs 1/x<1 sets a 1 else a 2;form g needs x=x/(x-1) sets a 4;"
            + "form h needs x=1 sets a 1/(x-1) else a 5;form i needs x=1 sets a 6 else a 1/x;");
        int[][] forms = {{0, 0, 3}, {0, 1, 1}, {0, 2, 0}, {1, 1, 3}, {1, 2, 0}, {2, 1, 3}, {2, 0, 1}, {3, 0, 3}, {3, 1, 0},
            {3, 2, 1}};
        for (int i = 0; i < forms.length; i++) {
            due("make", d.make(NONE, 1, forms[i][0], forms[i][1]), i);
            due("outcome of " + forms[i][0] + " with " + forms[i][1], d.outcome(1, i), forms[i][2]);
        }
    }

    private static void worth(String e, int x, int want) {
        TentativeDesk d = Due.told("primary 2;cell a 3;cell b 4;form f needs 0<1 sets b " + e + ";");
        due("make", d.make(NONE, 2, 0, x), 0);
        due("outcome of " + e, d.outcome(2, 0), 0);
        due(e, d.cell(2, 1, true), want);
    }

    private static void stuck(String e) {
        TentativeDesk d = Due.told("cell a 3;form f needs 0<1 sets a " + e + ";form g needs 0<" + e + " sets a 0;");
        due("make", d.make(NONE, 0, 0, 1), 0);
        due("make", d.make(NONE, 0, 1, 1), 1);
        due("outcome of " + e, d.outcome(0, 0), 3);
        due("outcome of needs " + e, d.outcome(0, 1), 3);
        due(e, d.cell(0, 0, true), 3);
        due("setter", d.setter(0, 0), -2);
    }

    private static void promise17And18() {
        Due.about("promises 17, 18");
        TentativeDesk d = desk();
        due("make", d.make(NONE, 2, 3, MIN), 0);
        due("make", d.make(NONE, 2, 1, -5), 1);
        due("make", d.make(NONE, 0, 2, MAX), 2);
        due("meet", d.meet(2, 1), 0);
        int[][] of = {{3, 2, 1, -2, 6, 0}, {1, 2, 2, -2, 6, 0}, {2, 0, 1, 0, 1, 1}};
        for (int w = 0; w < 3; w++) {
            for (int what = 0; what < 6; what++) {
                due("write(" + w + ", " + what + ")", d.write(w, what), of[w][what]);
            }
            due("write(" + w + ", 6)", d.write(w, 6), NONE);
            due("write(" + w + ", -1)", d.write(w, -1), NONE);
        }
        due("meet", d.meet(1, 0), 0);
        due("meet", d.meet(0, 2), 2);
        int[] places = {1, 2, 0};
        int[] have = {7, 7, 5};
        for (int w = 0; w < 3; w++) {
            due("place of " + w, d.write(w, 3), places[w]);
            due("copies with " + w, d.write(w, 4), have[w]);
            due("that KNOW " + w, d.write(w, 5), 5);
        }
        due("write(3, 0)", d.write(3, 0), NONE);
        due("write(-1, 0)", d.write(-1, 0), NONE);
        due("with(0)", d.with(0), MIN);
        due("with(1)", d.with(1), -5);
        due("with(2)", d.with(2), MAX);
        due("with(3)", d.with(3), 0);
        due("with(-1)", d.with(-1), 0);
        due("undo()", d.undo() && d.undo() && d.undo() && d.undo(), true);
        due("with(2)", d.with(2), 0);
        due("write(2, 0)", d.write(2, 0), NONE);
    }

    private static void promise19And20() {
        Due.about("promises 19, 20");
        TentativeDesk d = desk();
        due("make add", d.make(NONE, 1, 0, 9), 0);
        due("make add, idle", d.make(NONE, 1, 0, 1), 1);
        due("make swap, merged", d.make(NONE, 1, 1, 1), 2);
        due("make part, stuck", d.make(NONE, 1, 2, 0), 3);
        due("make at 0", d.make(NONE, 0, 0, 20), 4);
        due("make at 2", d.make(NONE, 2, 1, 0), 5);
        due("meet(0, 1)", d.meet(0, 1), 4);
        due("meet(2, 1)", d.meet(2, 1), 3);
        int[] one = {4, 6, 1, 7, 9, 6, 6, 2, 3};
        for (int what = 0; what < 9; what++) {
            due("copy(1, " + what + ")", d.copy(1, what), one[what]);
        }
        due("copy(1, 9)", d.copy(1, 9), NONE);
        due("copy(1, -1)", d.copy(1, -1), NONE);
        due("copy(3, 0)", d.copy(3, 0), NONE);
        due("copy(-1, 0)", d.copy(-1, 0), NONE);
        due("copy(2, 7)", d.copy(2, 7), 1);
        due("copy(1, 8)", d.copy(1, 8), 3);
        due("copy(2, 8)", d.copy(2, 8), 0);
        due("copy(2, 0)", d.copy(2, 0), 1);
        int[][] vectors = {{1, 0, 0}, {1, 4, 1}, {0, 0, 1}};
        for (int copy = 0; copy < 3; copy++) {
            for (int origin = 0; origin < 3; origin++) {
                due("vector(" + copy + ", " + origin + ")", d.vector(copy, origin), vectors[copy][origin]);
            }
            due("vector(" + copy + ", 3)", d.vector(copy, 3), NONE);
            due("vector(" + copy + ", -1)", d.vector(copy, -1), NONE);
        }
        due("vector(3, 0)", d.vector(3, 0), NONE);
        due("vector(-1, 0)", d.vector(-1, 0), NONE);
        due("CLOCK counts on", d.make(NONE, 1, 0, 1), 6);
        due("write(6, 2)", d.write(6, 2), 5);
        due("meet", d.meet(1, 2), 1);
        due("make", d.make(NONE, 2, 0, 1), 7);
        due("write(7, 2)", d.write(7, 2), 6);
        due("vector(2, 2)", d.vector(2, 2), 6);
        due("vector(1, 2)", d.vector(1, 2), 1);
    }

    private static void promise21And22() {
        Due.about("promises 21, 22");
        TentativeDesk d = desk();
        due("promise", d.promise(2, 9), true);
        due("make", d.make(2, 1, 0, 1), 0);
        due("refused make", d.make(2, 0, 0, 1), -2);
        due("refused ask", d.ask(2, 0, 0), 0);
        due("session(2, 0)", d.session(2, 0), 9);
        due("session(2, 1)", d.session(2, 1), 2);
        due("session(1, 1)", d.session(1, 1), 0);
        due("session(2, 2)", d.session(2, 2), NONE);
        due("session(2, -1)", d.session(2, -1), NONE);
        due("session(4, 0)", d.session(4, 0), NONE);
        due("session(-1, 1)", d.session(-1, 1), NONE);
        due("of(2, 1, true)", d.of(2, 1, true), 1);
        due("of(2, 1, false)", d.of(2, 1, false), 0);
        due("make", d.make(NONE, 1, 0, 1), 1);
        due("ask", d.ask(2, 1, 0), 1);
        due("of(2, 1, true)", d.of(2, 1, true), 1);
        due("of(2, 1, false)", d.of(2, 1, false), 2);
        due("of(2, 0, false)", d.of(2, 0, false), 0);
        due("of(2, 3, true)", d.of(2, 3, true), NONE);
        due("of(2, -1, true)", d.of(2, -1, true), NONE);
        due("of(4, 0, true)", d.of(4, 0, true), NONE);
        due("of(-1, 0, false)", d.of(-1, 0, false), NONE);
        due("of(3, 1, false)", d.of(3, 1, false), 0);
        due("of(1, 1, false)", d.of(1, 1, false), 0);
    }

    private static void promise23() {
        Due.about("promise 23");
        TentativeDesk d = desk();
        for (int i = -1; i < 9; i++) {
            due("shut(" + i + ")", d.shut(i), i < 0 || i > 7 ? NONE : -2);
        }
        due("make", d.make(NONE, 2, 0, 1), 0);
        due("shut(0)", d.shut(0), 2);
        due("shut(1)", d.shut(1), -2);
        due("meet(2, 1)", d.meet(2, 1), 0);
        due("ask", d.ask(0, 0, 0), 1);
        due("meet(0, 2)", d.meet(0, 2), 0);
        due("lead(1)", d.lead(1), true);
        int[] shut = {1, 2, 0, 0, 1, 2, 2, -2};
        for (int i = 0; i < 8; i++) {
            due("shut(" + i + ")", d.shut(i), shut[i]);
        }
        due("meet(0, 1)", d.meet(0, 1), 0);
        int[] then = {1, 0, 1, 2, 0, 0, 1, 2};
        for (int i = 0; i < 8; i++) {
            due("shut(" + i + ")", d.shut(i), then[i]);
        }
        due("shut(8)", d.shut(8), NONE);
        due("undo()", d.undo(), true);
        due("shut(7)", d.shut(7), -2);
        due("shut(0)", d.shut(0), 1);
        due("shut(1)", d.shut(1), 2);
    }

    private static void promises24To27() {
        Due.about("promises 24 to 27");
        TentativeDesk d = desk();
        due("make", d.make(NONE, 1, 0, 1), 0);
        due("make", d.make(NONE, 1, 0, 1), 1);
        due("make", d.make(NONE, 2, 1, 1), 2);
        due("lacks(1, 2)", d.lacks(1, 2), 2);
        due("lacks(2, 1)", d.lacks(2, 1), 1);
        due("lacks(1, 1)", d.lacks(1, 1), 0);
        due("lacks(0, 1)", d.lacks(0, 1), 0);
        due("lacks(3, 1)", d.lacks(3, 1), NONE);
        due("lacks(1, -1)", d.lacks(1, -1), NONE);
        due("would(1, 2)", d.would(1, 2), 1);
        due("would(2, 1)", d.would(2, 1), 1);
        due("would(0, 1)", d.would(0, 1), 0);
        due("would(1, 0)", d.would(1, 0), 0);
        due("would(1, 1)", d.would(1, 1), NONE);
        due("would(3, 1)", d.would(3, 1), NONE);
        due("would(1, -1)", d.would(1, -1), NONE);
        due("count(12)", d.count(12), 3);
        due("differ(1, 2)", d.differ(1, 2), 3);
        due("differ(0, 1)", d.differ(0, 1), 1);
        due("differ(0, 2)", d.differ(0, 2), 2);
        due("differ(2, 2)", d.differ(2, 2), 0);
        due("differ(2, 3)", d.differ(2, 3), NONE);
        due("differ(-1, 2)", d.differ(-1, 2), NONE);
        due("alike(1, 2)", d.alike(1, 2), 0);
        due("alike(1, 1)", d.alike(1, 1), 1);
        due("alike(1, 3)", d.alike(1, 3), NONE);
        due("alike(-1, 1)", d.alike(-1, 1), NONE);
        due("meet", d.meet(1, 2), 1);
        due("alike(1, 2)", d.alike(1, 2), 0);
        due("meet", d.meet(2, 1), 1);
        due("alike(1, 2)", d.alike(1, 2), 1);
        due("differ(1, 2)", d.differ(1, 2), 0);
        due("meet", d.meet(2, 0), 0);
        due("alike in writes alone", d.alike(0, 2), 0);
        due("lacks(0, 2)", d.lacks(0, 2), 0);
        due("would(0, 2)", d.would(0, 2), 0);
        due("meet", d.meet(0, 2), 0);
        due("alike(0, 2)", d.alike(0, 2), 1);
        due("make at 0", d.make(NONE, 0, 0, 1), 3);
        due("make at 1", d.make(NONE, 1, 0, 1), 4);
        due("would with what is known", d.would(0, 1), 1);
        due("meet", d.meet(0, 1), 1);
        d = Due.told("primary 2;cell a 0;form f needs 0<1 sets a a+1;");
        due("make at 1", d.make(NONE, 1, 0, 1), 0);
        due("make at 2", d.make(NONE, 2, 0, 1), 1);
        due("make at 2", d.make(NONE, 2, 0, 1), 2);
        due("would(2, 1)", d.would(2, 1), 1);
        due("would(1, 2)", d.would(1, 2), 0);
        due("meet", d.meet(2, 1), 1);
        due("log(1, 0)", d.log(1, 0), 1);
        due("log(1, 2)", d.log(1, 2), 0);
        due("would(1, 0)", d.would(1, 0), 0);
        due("meet", d.meet(1, 0), 0);
        due("make at 0", d.make(NONE, 0, 0, 1), 3);
        due("meet", d.meet(1, 2), 0);
        due("would(2, 0)", d.would(2, 0), 0);
        due("would(0, 2)", d.would(0, 2), 0);
        due("make at 1", d.make(NONE, 1, 0, 1), 4);
        due("would(1, 0)", d.would(1, 0), 0);
        due("would(0, 1)", d.would(0, 1), 1);
    }

    private static void promise28() {
        Due.about("promise 28");
        TentativeDesk d = Due.told("cell a 0;cell b 0;form one needs 0<1 sets a 1;form iff needs a=1 sets b b+1;"
            + "form els needs a=1 sets b 1 else b 2;form div needs 1/a=1 sets b 7;");
        due("no write", d.hangs(0, 0, 0), NONE);
        due("make one", d.make(NONE, 1, 0, 0), 0);
        due("make iff", d.make(NONE, 1, 1, 0), 1);
        due("make els", d.make(NONE, 1, 2, 0), 2);
        due("make div", d.make(NONE, 1, 3, 0), 3);
        due("make one", d.make(NONE, 1, 0, 0), 4);
        due("make iff", d.make(NONE, 1, 1, 0), 5);
        due("make at 2", d.make(NONE, 2, 0, 0), 6);
        int[] many = {3, 0, 0, 0, 0, 0};
        for (int i = 0; i < 6; i++) {
            due("hangs(1, " + i + ", 0)", d.hangs(1, i, 0), many[i]);
            due("hangs(1, " + i + ", 1)", d.hangs(1, i, 1), i == 0 ? 1 : -2);
        }
        due("it has it not", d.hangs(1, 6, 0), -3);
        due("it has it not", d.hangs(1, 6, 1), -3);
        due("what", d.hangs(1, 0, 2), NONE);
        due("what", d.hangs(1, 0, -1), NONE);
        due("what, it has it not", d.hangs(1, 6, 2), NONE);
        due("no write", d.hangs(1, 7, 0), NONE);
        due("no write", d.hangs(1, -1, 0), NONE);
        due("no copy", d.hangs(3, 0, 0), NONE);
        due("no copy", d.hangs(-1, 0, 0), NONE);
        due("meet", d.meet(2, 1), 5);
        due("6 sets it behind 0", d.hangs(1, 0, 0), 0);
        due("meet to the primary", d.meet(2, 0), 0);
        due("meet", d.meet(0, 1), 7);
        due("6 is first, 0 sets it", d.hangs(1, 6, 0), 0);
    }

    private static void promise29And30() {
        Due.about("promises 29, 30");
        TentativeDesk d = desk();
        due("make", d.make(NONE, 1, 0, 3), 0);
        due("make", d.make(NONE, 1, 1, 4), 1);
        due("make", d.make(NONE, 1, 0, 2), 2);
        int[] a = {1, 4, 4, 6, 6};
        int[] b = {2, 2, 2, 2, 2};
        for (int i = 0; i < 5; i++) {
            due("behind(1, 0, " + i + ")", d.behind(1, 0, i), a[i]);
            due("behind(1, 1, " + i + ")", d.behind(1, 1, i), i < 2 ? b[i] : 2);
        }
        due("behind(1, 0, MAX)", d.behind(1, 0, MAX), 6);
        due("behind(1, 0, -1)", d.behind(1, 0, -1), 0);
        due("behind(1, 0, MIN)", d.behind(1, 0, MIN), 0);
        due("behind(1, 2, 0)", d.behind(1, 2, 0), 0);
        due("behind(1, -1, 0)", d.behind(1, -1, 0), 0);
        due("behind(3, 0, 0)", d.behind(3, 0, 0), 0);
        due("behind(-1, 0, 0)", d.behind(-1, 0, 0), 0);
        due("behind(0, 0, 5)", d.behind(0, 0, 5), 1);
        due("make else", d.make(NONE, 1, 1, 5), 3);
        due("behind(1, 1, 3)", d.behind(1, 1, 3), 2);
        due("behind(1, 1, 4)", d.behind(1, 1, 4), -1);
        due("fork(0, 1)", d.fork(0, 1), 0);
        due("fork(1, 1)", d.fork(1, 1), 4);
        due("meet", d.meet(1, 2), 0);
        due("fork(1, 2)", d.fork(1, 2), 4);
        due("make at 2", d.make(NONE, 2, 0, 1), 4);
        due("fork(1, 2)", d.fork(1, 2), 4);
        due("make at 1", d.make(NONE, 1, 0, 1), 5);
        due("fork(1, 2)", d.fork(1, 2), 4);
        due("fork(2, 1)", d.fork(2, 1), 4);
        due("make at 0", d.make(NONE, 0, 0, 1), 6);
        due("meet", d.meet(0, 1), 5);
        due("fork(1, 2)", d.fork(1, 2), 0);
        due("fork(0, 1)", d.fork(0, 1), 1);
        due("fork(3, 1)", d.fork(3, 1), NONE);
        due("fork(1, -1)", d.fork(1, -1), NONE);
    }

    private static void promise31() {
        Due.about("promise 31");
        TentativeDesk d = Due.told("cell a 0;cell b 0;form seta needs 0<1 sets a x;form setb needs 0<1 sets b x;"
            + "form ifa needs a=1 sets a 1;form ifb needs b=1 sets b 1;form both needs a+b=2 sets a 1;");
        due("key(0, 0)", d.key(0, 0), -2);
        due("key(0, 1)", d.key(0, 1), -2);
        due("make setb", d.make(NONE, 1, 1, 1), 0);
        due("nothing hangs", d.key(1, 0), -2);
        due("make seta", d.make(NONE, 1, 0, 1), 1);
        due("make ifa", d.make(NONE, 1, 2, 0), 2);
        due("key(1, 0)", d.key(1, 0), 1);
        due("key(1, 1)", d.key(1, 1), 1);
        due("make ifb", d.make(NONE, 1, 3, 0), 3);
        due("of alike ones the first", d.key(1, 0), 0);
        due("key(1, 1)", d.key(1, 1), 1);
        due("make ifa", d.make(NONE, 1, 2, 0), 4);
        due("most", d.key(1, 0), 1);
        due("key(1, 1)", d.key(1, 1), 2);
        due("make both", d.make(NONE, 1, 4, 0), 5);
        due("key(1, 0)", d.key(1, 0), 1);
        due("key(1, 1)", d.key(1, 1), 3);
        due("key(1, 2)", d.key(1, 2), NONE);
        due("key(1, -1)", d.key(1, -1), NONE);
        due("key(3, 0)", d.key(3, 0), NONE);
        due("key(-1, 0)", d.key(-1, 0), NONE);
        due("key(0, 0)", d.key(0, 0), -2);
    }

    private static void promise32To34() {
        Due.about("promises 32 to 34");
        TentativeDesk d = desk();
        due("share(0)", d.share(0), 0);
        due("share(3)", d.share(3), NONE);
        due("share(-1)", d.share(-1), NONE);
        due("setter(0, 0)", d.setter(0, 0), -2);
        due("make", d.make(NONE, 1, 0, 0), 0);
        due("make", d.make(NONE, 1, 1, 7), 1);
        due("make", d.make(NONE, 2, 3, 7), 2);
        due("share(0)", d.share(0), 0);
        due("share(1)", d.share(1), 666);
        due("share(2)", d.share(2), 333);
        due("set to what it had", d.setter(1, 0), 0);
        due("merged", d.setter(1, 1), 1);
        due("idle", d.setter(2, 0), -2);
        due("make stuck", d.make(NONE, 1, 2, 0), 3);
        due("make set", d.make(NONE, 1, 1, 1), 4);
        due("setter(1, 0)", d.setter(1, 0), 0);
        due("setter(1, 1)", d.setter(1, 1), 4);
        due("setter(1, 2)", d.setter(1, 2), NONE);
        due("setter(1, -1)", d.setter(1, -1), NONE);
        due("setter(3, 0)", d.setter(3, 0), NONE);
        due("setter(-1, 0)", d.setter(-1, 0), NONE);
        due("share(1)", d.share(1), 800);
        due("ahead(1, 0, 1)", d.ahead(1, 0, 1), 1);
        due("ahead(1, 4, 1)", d.ahead(1, 4, 1), 0);
        due("ahead(1, 0, 2)", d.ahead(1, 0, 2), -2);
        due("ahead(1, 2, 0)", d.ahead(1, 2, 0), -2);
        due("ahead(0, 2, 0)", d.ahead(0, 2, 0), -2);
        due("ahead(1, 1, 1)", d.ahead(1, 1, 1), NONE);
        due("ahead(1, 5, 1)", d.ahead(1, 5, 1), NONE);
        due("ahead(1, 1, 5)", d.ahead(1, 1, 5), NONE);
        due("ahead(1, -1, 1)", d.ahead(1, -1, 1), NONE);
        due("ahead(1, 1, -1)", d.ahead(1, 1, -1), NONE);
        due("ahead(3, 0, 1)", d.ahead(3, 0, 1), NONE);
        due("ahead(-1, 0, 1)", d.ahead(-1, 0, 1), NONE);
        due("meet", d.meet(2, 1), 3);
        due("of one stamp by origin", d.ahead(1, 0, 2), 1);
        due("ahead(1, 2, 1)", d.ahead(1, 2, 1), 1);
        due("meet", d.meet(2, 0), 0);
        due("meet", d.meet(0, 1), 5);
        due("for good first", d.ahead(1, 2, 0), 1);
        due("share(1)", d.share(1), 1000);
    }

    private static void promise35() {
        Due.about("promise 35");
        TentativeDesk d = Due.told("copies 4;" + DESK.substring(9));
        due("may(0, false)", d.may(0, false), 15);
        due("may(0, true)", d.may(0, true), 15);
        due("may(4, false)", d.may(4, false), NONE);
        due("may(-1, true)", d.may(-1, true), NONE);
        due("make by 0", d.make(0, 1, 0, 1), 0);
        due("make by none", d.make(NONE, 2, 0, 1), 1);
        due("ask by 0", d.ask(0, 2, 0), 1);
        due("meet", d.meet(1, 3), 0);
        due("meet", d.meet(2, 0), 0);
        int[] asks = {15, 10, 5, 0, 15, 10, 5, 0, 15, 10, 5, 0, 15, 10, 5, 0};
        int[] makes = {15, 15, 15, 15, 5, 5, 5, 5, 10, 10, 10, 10, 0, 0, 0, 0};
        for (int promises = 0; promises < 16; promises++) {
            due("promise", d.promise(0, promises), promises > 0);
            due("may ask with " + promises, d.may(0, false), asks[promises]);
            due("may make with " + promises, d.may(0, true), makes[promises]);
        }
        due("no other session", d.may(1, true), 15);
        due("meet", d.meet(3, 0), 0);
        due("may(0, false)", d.may(0, false), 1);
        due("may(0, true)", d.may(0, true), 1);
        due("refused", d.make(0, 3, 0, 1), -2);
        for (int i = 2; i < 60; i++) {
            due("make", d.make(NONE, 0, 3, 0), i);
        }
        due("FULL is not REFUSED", d.may(0, true), 1);
        Due.about("promise 35, each ORIGIN");
        for (int origin = 0; origin < 5; origin++) {
            d = Due.told("copies 5;cell a 0;form f needs 0<1 sets a a+1;");
            due("make", d.make(0, origin, 0, 1), 0);
            due("ask", d.ask(1, origin, 0), 1);
            due("promise", d.promise(0, 9) && d.promise(1, 6), true);
            for (int session = 0; session < 2; session++) {
                due("may ask", d.may(session, false), 1 << origin);
                due("may make", d.may(session, true), 1 << origin);
            }
            due("ask", d.ask(0, origin, 0), 1);
            for (int of = 0; of < 5; of++) {
                due("of(0, " + of + ", true)", d.of(0, of, true), of == origin ? 1 : 0);
                due("of(0, " + of + ", false)", d.of(0, of, false), of == origin ? 1 : 0);
                due("of(1, " + of + ", true)", d.of(1, of, true), 0);
            }
        }
    }

    private static void promise36() {
        Due.about("promise 36");
        TentativeDesk d = Due.told("copies 5;primary 2;cell a 0;form f needs 0<1 sets a a+1;");
        plan(d, 0, 0, 0);
        due("plan(3)", d.plan(3), NONE);
        due("plan(-1)", d.plan(-1), NONE);
        due("make at 2", d.make(NONE, 2, 0, 0), 0);
        plan(d, 4, 0, 27);
        due("make at 4", d.make(NONE, 4, 0, 0), 1);
        plan(d, 5, 16, 27);
        due("meet", d.meet(4, 3), 0);
        plan(d, 5, 8, 27);
        due("make at 0", d.make(NONE, 0, 0, 0), 2);
        plan(d, 6, 9, 27);
        due("meet", d.meet(0, 4), 1);
        plan(d, 5, 16, 27);
        due("meet", d.meet(4, 1), 0);
        plan(d, 5, 2, 27);
        due("count(12)", d.count(12), 9);
        due("meet", d.meet(1, 2), 0);
        plan(d, 4, 0, 27);
        due("meet", d.meet(2, 0), 1);
        plan(d, 3, 0, 26);
        due("meet", d.meet(0, 3), 1);
        due("meet", d.meet(0, 4), 2);
        due("meet", d.meet(0, 1), 2);
        plan(d, 0, 0, 0);
        due("make at 1", d.make(NONE, 1, 0, 0), 3);
        due("lead(1)", d.lead(1), true);
        plan(d, 4, 0, 29);
        due("make at 0", d.make(NONE, 0, 0, 0), 4);
        plan(d, 5, 1, 29);
        due("meet(1, 0)", d.meet(1, 0), 0);
        plan(d, 5, 1, 29);
    }

    private static void plan(TentativeDesk d, int all, int givers, int takers) {
        due("plan(0)", d.plan(0), all);
        due("plan(1)", d.plan(1), givers);
        due("plan(2)", d.plan(2), takers);
    }

    private static void promise37() {
        Due.about("promise 37");
        TentativeDesk d = desk();
        due("clash(1)", d.clash(1), -2);
        due("make set", d.make(NONE, 1, 0, 4), 0);
        due("clash(1)", d.clash(1), -2);
        due("make at 2, idle", d.make(NONE, 2, 3, 4), 1);
        due("clash(2)", d.clash(2), 1);
        due("make merged", d.make(NONE, 1, 1, 9), 2);
        due("clash(1)", d.clash(1), 2);
        due("make stuck", d.make(NONE, 1, 2, 0), 3);
        due("clash(1)", d.clash(1), 2);
        due("meet", d.meet(2, 1), 2);
        due("clash(1)", d.clash(1), 1);
        due("clash(0)", d.clash(0), -2);
        due("clash(3)", d.clash(3), NONE);
        due("clash(-1)", d.clash(-1), NONE);
        due("stuck at 0", d.make(NONE, 0, 2, 1), 4);
        due("clash(0)", d.clash(0), 4);
    }

    private static void promise38And39() {
        Due.about("promises 38, 39");
        for (int copies = 1; copies <= 5; copies++) {
            String text = "copies " + copies + ";seed " + copies * 7 + ";cell a 0;form f needs 0<1 sets a a+1;";
            TentativeDesk d = Due.told(text);
            due("soon()", d.soon(), 0);
            for (int i = 0; i < copies; i++) {
                due("make", d.make(NONE, i, 0, 0), i);
            }
            due("chance(1)", d.chance(1), 1);
            int soon = d.soon();
            int met = 0;
            while (met <= 60 && !isSettled(d)) {
                due("year(0, 1)", d.year(0, 1), 0);
                due("year so far", d.year(Math.max(0, soon - met - 1), 1), 0);
                due("chance(1)", d.chance(1), met + 2);
                met++;
            }
            due("soon() of " + copies, soon, met > 60 ? -2 : met);
            due("year(0, 20)", d.year(0, 20), 20);
        }
        TentativeDesk d = Due.told("copies 5;seed 100;cell a 0;form f needs 0<1 sets a a+1;");
        due("make", d.make(NONE, 1, 0, 0), 0);
        due("chance(2)", d.chance(2), 2);
        int many = 0;
        for (int seed = 100; seed < 120; seed++) {
            TentativeDesk other = Due.told("copies 5;seed 100;cell a 0;form f needs 0<1 sets a a+1;");
            due("make", other.make(NONE, 1, 0, 0), 0);
            due("chance(2)", other.chance(2), 2);
            for (int m = 2; m < 32; m++) {
                int a = lot(5, seed, 2 * m);
                due("meet", other.meet(a, (a + 1 + lot(4, seed, 2 * m + 1)) % 5) >= 0, true);
            }
            many += isSettled(other) ? 1 : 0;
        }
        due("some are not settled", many > 0 && many < 20, true);
        due("year(30, 20)", d.year(30, 20), many);
        due("year(-1, 1)", d.year(-1, 1), NONE);
        due("year(61, 1)", d.year(61, 1), NONE);
        due("year(1, 0)", d.year(1, 0), NONE);
        due("year(1, 21)", d.year(1, 21), NONE);
        due("year(60, 1) is one", d.year(60, 1) >= 0, true);
        due("count(6)", d.count(6), 2);
        d = Due.told("copies 2;cell a 0;form f needs 0<1 sets a a+1;");
        due("make at 1", d.make(NONE, 1, 0, 0), 0);
        due("lead(1)", d.lead(1), true);
        due("meet", d.meet(1, 0), 0);
        due("alike, but not in the ORDER", d.alike(0, 1), 1);
        due("soon()", d.soon(), -2);
        due("year(60, 20)", d.year(60, 20), 0);
        due("make at 0", d.make(NONE, 0, 0, 0), 1);
        int soon = d.soon();
        due("soon()", soon > 1, true);
        due("year(soon, 1)", d.year(soon, 1), 1);
        due("year(soon - 1, 1)", d.year(soon - 1, 1), 0);
        due("chance", d.chance(soon), soon);
        due("settled", isSettled(d), true);
        soonAt(36, 2, 60);
        soonAt(36, 3, 59);
        soonAt(18, 1, -2);
        soonAt(0, 3, -2);
    }

    private static void soonAt(int seed, int copy, int want) {
        TentativeDesk d = Due.told("copies 5;seed " + seed + ";cell a 0;form f needs 0<1 sets a 1;");
        due("make", d.make(NONE, copy, 0, 0), 0);
        due("soon() of seed " + seed, d.soon(), want);
        due("year(60, 1)", d.year(60, 1), want == -2 ? 0 : 1);
        due("year(59, 1)", d.year(59, 1), want == 59 ? 1 : 0);
        due("chance(60)", d.chance(60), 60);
        due("settled", isSettled(d), want != -2);
    }

    private static boolean isSettled(TentativeDesk d) {
        return d.count(10) == 1 && d.count(4) == d.count(3);
    }

    private static void promise40And41() {
        Due.about("promises 40, 41");
        TentativeDesk d = desk();
        due("hold(-1)", d.hold(-1), false);
        due("hold(3)", d.hold(3), false);
        due("restore(0)", d.restore(0), false);
        due("restore(3)", d.restore(3), false);
        due("restore(-1)", d.restore(-1), false);
        due("make", d.make(0, 1, 0, 4), 0);
        due("make", d.make(0, 0, 1, 7), 1);
        due("promise", d.promise(0, 2), true);
        due("ask", d.ask(0, 1, 0), 1);
        due("refused", d.ask(0, 0, 0), 0);
        due("hold(0)", d.hold(0), true);
        due("count(11)", d.count(11), 1);
        due("count(9)", d.count(9), 5);
        due("restore(1)", d.restore(1), false);
        due("count(9)", d.count(9), 5);
        due("undo all", d.undo() && d.undo() && d.undo() && d.undo() && d.undo(), true);
        due("count(11)", d.count(11), 1);
        due("hold(2)", d.hold(2), true);
        due("make", d.make(NONE, 2, 3, 6), 0);
        due("make", d.make(NONE, 2, 3, 5), 1);
        due("make", d.make(NONE, 2, 3, 4), 2);
        due("meet", d.meet(2, 0), 0);
        due("lead", d.lead(1), false);
        due("chance", d.chance(2), 2);
        Due.feed(d, "seed 1;");
        due("restore(0)", d.restore(0), true);
        due("count(8)", d.count(8), 7);
        due("count(9)", d.count(9), 0);
        due("undo()", d.undo(), false);
        int[] counts = {3, 2, 4, 2, 1, 0, 0, 0, 7, 0, 0, 2, 4, 4, 0, 0, 1, 1, 0};
        for (int what = 0; what < counts.length; what++) {
            due("count(" + what + ")", d.count(what), counts[what]);
        }
        due("write(0, 0)", d.write(0, 0), 0);
        due("write(0, 1)", d.write(0, 1), 1);
        due("write(1, 2)", d.write(1, 2), 1);
        due("write(1, 3)", d.write(1, 3), 0);
        due("write(0, 3)", d.write(0, 3), -2);
        due("with(0)", d.with(0), 4);
        due("with(1)", d.with(1), 7);
        due("cell(1, 0)", d.cell(1, 0, false), 5);
        due("got(0)", d.got(0), 5);
        due("session(0, 0)", d.session(0, 0), 2);
        due("session(0, 1)", d.session(0, 1), 1);
        due("of(0, 1, true)", d.of(0, 1, true), 1);
        due("of(0, 1, false)", d.of(0, 1, false), 1);
        due("shut(0)", d.shut(0), 0);
        due("shut(3)", d.shut(3), 1);
        due("shut(4)", d.shut(4), -2);
        due("make on", d.make(NONE, 1, 0, 1), 2);
        due("count(9)", d.count(9), 1);
        due("it stays there", d.restore(0), true);
        due("count(3)", d.count(3), 2);
        due("restore(2)", d.restore(2), true);
        due("count(3)", d.count(3), 0);
        due("hold over", d.hold(0), true);
        due("count(11)", d.count(11), 2);
        due("restore(0)", d.restore(0), true);
        due("count(3)", d.count(3), 0);
        due("hold(1)", d.hold(1), true);
        due("count(11)", d.count(11), 3);
        due("count(9)", d.count(9), 0);
        due("read()", d.read(), 0);
        due("count(11)", d.count(11), 0);
        due("restore(1)", d.restore(1), false);
    }

    private static void questionsChangeNothing() {
        Due.about("promises 5, 8, 14 to 39, 42");
        for (int i = -1; i < 7; i++) {
            int at = i;
            Look.unchanged(Scene::busy, d -> {
                for (int j = -1; j < 4; j++) {
                    askAll(d, at, j);
                }
            });
        }
    }

    private static void askAll(TentativeDesk d, int i, int j) {
        int[] told = {d.place(), d.got(i), d.cell(j, i, true), d.cell(i, j, false), d.log(j, i), d.outcome(j, i),
            d.write(i, j), d.with(i), d.copy(j, i), d.vector(i, j), d.session(i, j), d.of(i, j, true), d.of(i, j, false),
            d.shut(i), d.lacks(i, j), d.would(i, j), d.would(j, i), d.differ(i, j), d.alike(i, j), d.hangs(j, i, 0),
            d.hangs(j, i, 1), d.behind(j, 0, i), d.fork(i, j), d.key(i, j), d.share(i), d.setter(i, j), d.ahead(j, i, 1),
            d.may(i, true), d.may(i, false), d.plan(i), d.clash(i), d.soon(), d.year(i, j), d.count(i)};
        due("questions", told.length, 34);
    }

    private static void promise42() {
        Due.about("promise 42");
        TentativeDesk d = Due.told("copies 4;" + DESK.substring(9));
        due("make at 1", d.make(NONE, 1, 0, 4), 0);
        due("make at 2, merged", d.make(NONE, 2, 1, 7), 1);
        due("make at 0, stuck", d.make(NONE, 0, 2, 0), 2);
        due("make at 0, idle", d.make(NONE, 0, 3, 0), 3);
        due("make at 0, merged", d.make(NONE, 0, 1, 3), 4);
        due("meet(0, 1)", d.meet(0, 1), 1);
        due("meet(0, 2)", d.meet(0, 2), 1);
        due("meet(2, 3)", d.meet(2, 3), 0);
        due("promise", d.promise(0, 2), true);
        due("ask", d.ask(0, 1, 0), 1);
        due("refused", d.ask(0, 3, 0), 0);
        due("hold", d.hold(2), true);
        Due.feed(d, "seed");
        int[] counts = {4, 2, 4, 5, 3, 0, 0, 2, 4, 11, 0, 1, 13, 13, 3, 3, 1, 1, 2};
        for (int what = 0; what < counts.length; what++) {
            due("count(" + what + ")", d.count(what), counts[what]);
        }
        due("count(19)", d.count(19), NONE);
        due("count(-1)", d.count(-1), NONE);
        due("count(MIN)", d.count(MIN), NONE);
        due("count(MAX)", d.count(MAX), NONE);
        due("lead(3)", d.lead(3), true);
        due("count(5)", d.count(5), 3);
        due("count(17)", d.count(17), 2);
        due("count(18)", d.count(18), 2);
        due("chance(4)", d.chance(4), 4);
        due("count(6)", d.count(6), 4);
        due("make", d.make(NONE, 3, 3, 0), 5);
        due("count(14)", d.count(14) < d.count(4), true);
    }
}
