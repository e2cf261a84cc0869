/** The edges of terms II and of promises 6 to 13: a test for each sentence that names one. */
public final class WriteBoundsTest {
    private static final int NONE = TentativeDesk.NONE;
    private static final int MIN = Integer.MIN_VALUE;
    private static final int MAX = Integer.MAX_VALUE;

    /** One form: a is one more. */
    private static final String BUMP = "cell a 0;form f needs 0<1 sets a a+1;";

    private WriteBoundsTest() {
    }

    public static void main(String[] args) {
        Remarked.runAll(WriteBoundsTest.class, args);
    }

    private static void is(long got, long want) {
        Due.is(got, want);
    }

    private static void is(boolean got, boolean want) {
        Due.is(got, want);
    }

    private static TentativeDesk bump(int copies, int primary) {
        return Due.told(BUMP + "copies " + copies + ";primary " + primary + ";");
    }

    /** Makes a write of form 0 by no session and looks at its number. */
    private static void make(TentativeDesk d, int copy, int number) {
        is(d.make(NONE, copy, 0, 0), number);
    }

    private static void logIs(TentativeDesk d, int copy, int... writes) {
        for (int i = 0; i < writes.length; i++) {
            is(d.log(copy, i), writes[i]);
        }
        is(d.log(copy, writes.length), NONE);
        is(d.copy(copy, 1), writes.length);
    }

    private static void vectorIs(TentativeDesk d, int copy, int... stamps) {
        for (int origin = 0; origin < stamps.length; origin++) {
            is(d.vector(copy, origin), stamps[origin]);
        }
    }

    private static void shutAre(TentativeDesk d, int... copies) {
        for (int i = 0; i < copies.length; i++) {
            is(d.shut(i), copies[i]);
        }
        if (copies.length < 8) {
            is(d.shut(copies.length), -2);
        }
    }

    private static TentativeDesk full() {
        TentativeDesk d = bump(3, 0);
        for (int i = 0; i < 60; i++) {
            make(d, 1, i);
        }
        return d;
    }

    // The terms, II.

    @Remark(promise = 6, terms = "II", says = "WRITES, 60 at most,")
    static void promise06Writes60() {
        TentativeDesk d = bump(3, 0);
        for (int i = 0; i < 60; i++) {
            is(d.make(i % 5 - 1, i % 3, 0, i), i);
        }
        is(d.count(3), 60);
        is(d.with(59), 59);
        is(d.make(NONE, 0, 0, 7), NONE);
        is(d.make(2, 1, 0, 7), NONE);
        is(d.count(3), 60);
        is(d.with(60), 0);
        is(d.write(59, 0), 0);
        is(d.write(60, 0), NONE);
        is(d.copy(0, 1) + d.copy(1, 1) + d.copy(2, 1), 60);
        is(d.undo() && d.undo() && d.undo(), true);
        is(d.count(3), 59);
        is(d.make(NONE, 2, 0, 7), 59);
        is(d.make(NONE, 2, 0, 7), NONE);
    }

    @Remark(promise = 6, terms = "II", says = "numbered from 0 on as they are made:")
    static void promise06NumberedFrom0() {
        TentativeDesk d = bump(3, 0);
        make(d, 2, 0);
        make(d, 0, 1);
        is(d.promise(0, 8), true);
        is(d.make(0, 1, 0, 0), 2);
        is(d.make(0, 2, 0, 0), -2);
        make(d, 1, 3);
        is(d.undo(), true);
        make(d, 2, 3);
        is(d.write(3, 1), 2);
        is(d.write(2, 1), 1);
    }

    @Remark(promise = 17, terms = "II", says = "of a FORM, with x, an ORIGIN (a copy) and a STAMP.")
    static void promise17OfAWrite() {
        TentativeDesk d = Due.told(Scene.TEXT + "copies 5;");
        int[] xs = {MIN, -1, 0, 1, MAX};
        for (int i = 0; i < 5; i++) {
            is(d.make(NONE, 4 - i, i % 4, xs[i]), i);
        }
        is(d.make(NONE, 4, 3, 6), 5);
        for (int i = 0; i < 5; i++) {
            is(d.write(i, 0), i % 4);
            is(d.write(i, 1), 4 - i);
            is(d.write(i, 2), 1);
            is(d.with(i), xs[i]);
        }
        is(d.write(5, 0), 3);
        is(d.write(5, 1), 4);
        is(d.write(5, 2), 2);
        is(d.with(5), 6);
    }

    @Remark(promise = 19, terms = "II",
        says = "Of each copy: which WRITES it has; its CLOCK (0 at first), the greatest STAMP of these;")
    static void promise19Clock() {
        TentativeDesk d = bump(3, 0);
        for (int copy = 0; copy < 3; copy++) {
            is(d.copy(copy, 0), 0);
            is(d.copy(copy, 1), 0);
        }
        make(d, 2, 0);
        make(d, 2, 1);
        make(d, 2, 2);
        is(d.copy(2, 0), 3);
        is(d.copy(1, 0), 0);
        is(d.meet(2, 1), 0);
        is(d.copy(1, 0), 3);
        make(d, 0, 3);
        is(d.meet(0, 1), 3);
        is(d.copy(1, 0), 3);
        make(d, 0, 4);
        make(d, 0, 5);
        make(d, 0, 6);
        is(d.copy(0, 0), 4);
        is(d.meet(1, 0), 0);
        logIs(d, 0, 3, 4, 5, 6, 0, 1, 2);
        is(d.copy(0, 0), 4);
        make(d, 0, 7);
        is(d.write(7, 2), 5);
        is(d.undo() && d.undo() && d.undo(), true);
        is(d.copy(0, 0), 3);
    }

    @Remark(promise = 20, terms = "II",
        says = "its VECTOR: of each copy the greatest STAMP of a WRITE of that ORIGIN it has (0: none);")
    static void promise20Vector() {
        TentativeDesk d = bump(3, 0);
        for (int copy = 0; copy < 3; copy++) {
            vectorIs(d, copy, 0, 0, 0);
        }
        make(d, 1, 0);
        make(d, 1, 1);
        vectorIs(d, 1, 0, 2, 0);
        vectorIs(d, 0, 0, 0, 0);
        is(d.meet(1, 2), 0);
        vectorIs(d, 2, 0, 2, 0);
        make(d, 2, 2);
        vectorIs(d, 2, 0, 2, 3);
        make(d, 1, 3);
        vectorIs(d, 1, 0, 3, 0);
        is(d.meet(2, 1), 0);
        vectorIs(d, 1, 0, 3, 3);
        vectorIs(d, 2, 0, 2, 3);
        is(d.undo(), true);
        vectorIs(d, 1, 0, 3, 0);
    }

    @Remark(promise = 19, terms = "II", says = "how many of the ORDER (II ends) it KNOWS.")
    static void promise19Knows() {
        TentativeDesk d = bump(3, 2);
        is(d.copy(2, 2), 0);
        make(d, 2, 0);
        is(d.copy(2, 2), 1);
        make(d, 2, 1);
        is(d.copy(2, 2), 2);
        is(d.copy(0, 2), 0);
        is(d.meet(2, 0), 0);
        is(d.copy(0, 2), 2);
        make(d, 0, 2);
        is(d.copy(0, 2), 2);
        is(d.copy(0, 1), 3);
        is(d.copy(2, 2), 2);
        is(d.count(4), 2);
    }

    @Remark(promise = 15, terms = "II",
        says = "Its LOG: as many of the ORDER, then its other WRITES by STAMP, of alike ones by ORIGIN.")
    static void promise15LogsOrder() {
        TentativeDesk d = bump(3, 0);
        logIs(d, 2);
        make(d, 2, 0);
        make(d, 1, 1);
        make(d, 1, 2);
        make(d, 2, 3);
        is(d.meet(1, 2), 2);
        logIs(d, 2, 1, 0, 2, 3);
        make(d, 0, 4);
        make(d, 0, 5);
        is(d.meet(0, 2), 4);
        logIs(d, 2, 4, 5, 1, 0, 2, 3);
        is(d.meet(2, 0), 0);
        logIs(d, 0, 4, 5, 1, 0, 2, 3);
        make(d, 1, 6);
        is(d.meet(0, 1), 3);
        logIs(d, 1, 4, 5, 1, 0, 2, 3, 6);
        d = bump(5, 4);
        for (int copy = 3; copy >= 0; copy--) {
            make(d, copy, 3 - copy);
        }
        for (int copy = 1; copy < 4; copy++) {
            is(d.meet(copy, 0), 0);
        }
        logIs(d, 0, 3, 2, 1, 0);
    }

    @Remark(promise = 14, terms = "II",
        says = "What it has: CELLS as told at first, all WRITES of the LOG done, one behind the other;")
    static void promise14AllWritesOfTheLog() {
        TentativeDesk d = Due.told("cell a 3;cell b 9999;form add needs 0<1 sets a a+x;"
            + "form mul needs 0<1 sets a a*x;");
        is(d.cell(1, 0, false), 3);
        is(d.cell(1, 1, false), 9999);
        is(d.make(NONE, 2, 1, 5), 0);
        is(d.cell(2, 0, false), 15);
        is(d.make(NONE, 1, 0, 4), 1);
        is(d.cell(1, 0, false), 7);
        is(d.cell(0, 0, false), 3);
        is(d.meet(1, 2), 1);
        is(d.cell(2, 0, false), 35);
        is(d.make(NONE, 2, 0, 100), 2);
        is(d.cell(2, 0, false), 135);
        is(d.cell(2, 1, false), 9999);
        is(d.undo() && d.undo() && d.undo() && d.undo(), true);
        is(d.cell(2, 0, false), 3);
    }

    @Remark(promise = 14, terms = "II", says = "FOR GOOD: only those that it KNOWS.")
    static void promise14ForGood() {
        TentativeDesk d = bump(3, 0);
        make(d, 1, 0);
        is(d.cell(1, 0, true), 0);
        is(d.cell(1, 0, false), 1);
        make(d, 0, 1);
        make(d, 0, 2);
        is(d.cell(0, 0, true), 2);
        is(d.cell(0, 0, false), 2);
        is(d.meet(0, 1), 1);
        is(d.cell(1, 0, true), 2);
        is(d.cell(1, 0, false), 3);
        is(d.meet(1, 2), 0);
        is(d.cell(2, 0, true), 2);
        is(d.cell(2, 0, false), 3);
        is(d.meet(1, 0), 0);
        is(d.cell(0, 0, true), 3);
        is(d.cell(1, 0, true), 2);
    }

    @Remark(promise = 16, terms = "II", says = "of the E's that it NEEDS the first less than the other ('<'),")
    static void promise16NeedsLess() {
        TentativeDesk d = Due.told("cell a 0;form f needs x<5 sets a 1;form g needs 5<x sets a 1;"
            + "form h needs a-x<a+x sets a 0;");
        outcomes(d, 0, new int[] {4, 5, 6, MIN, MAX, -1}, 0, 2, 2, 0, 2, 0);
        outcomes(d, 1, new int[] {4, 5, 6, MIN, MAX, -1}, 2, 2, 0, 2, 0, 2);
        outcomes(d, 2, new int[] {0, 1, -1, MIN}, 2, 0, 2, 2);
    }

    @Remark(promise = 16, terms = "II", says = {"To do a WRITE: of the E's that it NEEDS the first",
        "or like it ('='):"})
    static void promise16NeedsLike() {
        TentativeDesk d = Due.told("cell a 0;form f needs x=5 sets a 1;form g needs 0=x sets a 1;");
        outcomes(d, 0, new int[] {4, 5, 6, -5, MAX}, 2, 0, 2, 2, 2);
        outcomes(d, 1, new int[] {0, 1, -1, MIN}, 0, 2, 2, 2);
    }

    /** What comes of writes of a form, with these x, made at copy 1 one behind the other. */
    private static void outcomes(TentativeDesk d, int form, int[] xs, int... due) {
        for (int i = 0; i < xs.length; i++) {
            int write = d.make(NONE, 1, form, xs[i]);
            is(write, d.count(3) - 1);
            is(d.outcome(1, write), due[i]);
        }
    }

    @Remark(promise = 16, terms = "II", says = {"its CELL has what its E tells (0 SET);",
        "not so: with 'else', that CELL what that E tells (1 MERGED), without: nothing (2 IDLE);"})
    static void promise16SetMergedIdle() {
        TentativeDesk d = Due.told("cell a 1;cell b 2;cell c 3;form with needs x<0 sets a 10 else b 20;"
            + "form none needs x<0 sets c 30;");
        outcomes(d, 0, new int[] {0}, 1);
        cellsAre(d, 1, 20, 3);
        outcomes(d, 0, new int[] {-1}, 0);
        cellsAre(d, 10, 20, 3);
        outcomes(d, 1, new int[] {0}, 2);
        cellsAre(d, 10, 20, 3);
        outcomes(d, 1, new int[] {-1}, 0);
        cellsAre(d, 10, 20, 30);
    }

    private static void cellsAre(TentativeDesk d, int... cells) {
        for (int cell = 0; cell < cells.length; cell++) {
            is(d.cell(1, cell, false), cells[cell]);
        }
    }

    @Remark(promise = 16, terms = "II",
        says = "where, in an E that is looked at, something is divided by 0: nothing (3 STUCK).")
    static void promise16Stuck() {
        TentativeDesk d = Due.told("cell a 7;form f needs 1/x<5 sets a 1 else a 2;form g needs 5<1/x sets a 1 else a 2;"
            + "form h needs x=x sets a 1/x else a 2;form i needs 1<0 sets a 1 else a a/(x-x);"
            + "form j needs 0*(1/x)=0 sets a 1;form k needs 1<0 sets a 0/x;");
        outcomes(d, 0, new int[] {0}, 3);
        outcomes(d, 1, new int[] {0}, 3);
        outcomes(d, 2, new int[] {0}, 3);
        outcomes(d, 3, new int[] {9}, 3);
        outcomes(d, 4, new int[] {0}, 3);
        cellsAre(d, 7);
        outcomes(d, 5, new int[] {0}, 2);
        cellsAre(d, 7);
        d = Due.told("cell a 7;form f needs x<1 sets a 1 else a 1/0;form g needs x<1 sets a 0/0 else a 2;");
        outcomes(d, 0, new int[] {0, 1}, 0, 3);
        cellsAre(d, 1);
        outcomes(d, 1, new int[] {1, 0}, 1, 3);
        cellsAre(d, 2);
    }

    /** What an expression is worth, in a write with x made at copy 1, with a 3 and b 4. */
    private static int worth(String e, int x) {
        TentativeDesk d = Due.told("cell a 3;cell b 4;form f needs 0<1 sets b " + e + ";");
        outcomes(d, 0, new int[] {x}, 0);
        return d.cell(1, 1, false);
    }

    @Remark(promise = 16, terms = "II", says = "E's: ints of 32 bits that wrap,")
    static void promise16IntsWrap() {
        is(worth("x+1", MAX), MIN);
        is(worth("x-1", MIN), MAX);
        is(worth("0-x", MIN), MIN);
        is(worth("x*x", 65536), 0);
        is(worth("x*x", 46341), -2147479015);
        is(worth("x*2", MAX), -2);
        is(worth("x/(0-1)", MIN), MIN);
        is(worth("9999*9999*9999", 0), 9999 * 9999 * 9999);
        TentativeDesk d = Due.told("cell a 0;form f needs x+1<x sets a 1;");
        outcomes(d, 0, new int[] {MAX, MAX - 1, 0}, 0, 2, 2);
    }

    @Remark(promise = 16, terms = "II", says = "/ rounded towards 0,")
    static void promise16RoundedTowards0() {
        is(worth("x/2", 7), 3);
        is(worth("x/2", -7), -3);
        is(worth("7/x", -2), -3);
        is(worth("x/(0-2)", -7), 3);
        is(worth("x/2", 1), 0);
        is(worth("x/2", -1), 0);
        is(worth("x/9999", MIN), -214769);
        is(worth("0/x", -5), 0);
    }

    @Remark(promise = 16, terms = "II", says = "CELLS as they are then.")
    static void promise16CellsAsTheyAreThen() {
        TentativeDesk d = Due.told("cell a 1;cell b 5;form f needs a<b sets a b else b a-10;");
        outcomes(d, 0, new int[] {0}, 0);
        cellsAre(d, 5, 5);
        outcomes(d, 0, new int[] {0}, 1);
        cellsAre(d, 5, -5);
        outcomes(d, 0, new int[] {0}, 1);
        cellsAre(d, 5, -5);
        d = Due.told("cell a 1;form f needs 0<1 sets a a+a*a;");
        outcomes(d, 0, new int[] {0, 0}, 0, 0);
        cellsAre(d, 6);
    }

    @Remark(promise = 6, terms = "II", says = "A WRITE is made at a copy: its STAMP is the CLOCK there and 1; the copy has it.")
    static void promise06StampOfAWrite() {
        TentativeDesk d = bump(3, 0);
        make(d, 1, 0);
        is(d.write(0, 2), 1);
        is(d.write(0, 4), 2);
        make(d, 2, 1);
        is(d.write(1, 2), 1);
        make(d, 2, 2);
        is(d.write(2, 2), 2);
        is(d.meet(2, 1), 0);
        make(d, 1, 3);
        is(d.write(3, 2), 3);
        is(d.write(3, 4), 2);
        is(d.copy(1, 0), 3);
        make(d, 0, 4);
        is(d.write(4, 2), 1);
        is(d.undo(), true);
        make(d, 1, 4);
        is(d.write(4, 2), 4);
    }

    @Remark(promise = 17, terms = "II", says = {"The PRIMARY gives all its WRITES that are not in the ORDER yet their place"
        + " there, as its LOG has them, and KNOWS all:"})
    static void promise17PlacesAsTheLogHasThem() {
        TentativeDesk d = bump(3, 0);
        make(d, 2, 0);
        make(d, 1, 1);
        make(d, 1, 2);
        is(d.meet(1, 2), 1);
        is(d.write(0, 3), -2);
        is(d.count(4), 0);
        is(d.meet(2, 0), 0);
        is(d.count(4), 3);
        is(d.copy(0, 2), 3);
        is(d.write(1, 3), 0);
        is(d.write(0, 3), 1);
        is(d.write(2, 3), 2);
        make(d, 2, 3);
        make(d, 1, 4);
        make(d, 0, 5);
        is(d.write(5, 3), 3);
        is(d.meet(2, 0), 0);
        is(d.write(3, 3), 4);
        is(d.meet(1, 0), 0);
        is(d.write(4, 3), 5);
        is(d.count(4), 6);
        is(d.copy(0, 2), 6);
    }

    @Remark(promise = 17, terms = "II", says = "at once, whenever one is made there or a meeting brings any.")
    static void promise17PlacesAtOnce() {
        TentativeDesk d = bump(3, 0);
        make(d, 1, 0);
        is(d.write(0, 3), -2);
        is(d.meet(1, 2), 0);
        is(d.write(0, 3), -2);
        is(d.lead(1), true);
        is(d.write(0, 3), -2);
        is(d.copy(1, 2), 0);
        is(d.meet(2, 1), 0);
        is(d.write(0, 3), -2);
        is(d.meet(0, 1), 0);
        is(d.count(4), 0);
        is(d.meet(1, 0), 0);
        is(d.count(4), 0);
        make(d, 2, 1);
        is(d.meet(2, 1), 0);
        is(d.count(4), 2);
        is(d.copy(1, 2), 2);
        is(d.write(0, 3), 0);
        is(d.write(1, 3), 1);
        is(d.undo() && d.undo(), true);
        is(d.count(4), 0);
        make(d, 1, 1);
        is(d.count(4), 2);
        is(d.write(0, 3), 0);
        is(d.write(1, 3), 1);
        is(d.copy(0, 2), 0);
    }

    @Remark(promise = 10, terms = "II", says = "A MEETING of a copy a to another one b: b has all WRITES of a besides,")
    static void promise10AMeetingBringsAll() {
        TentativeDesk d = bump(3, 0);
        is(d.meet(1, 2), 0);
        is(d.copy(2, 1), 0);
        make(d, 1, 0);
        make(d, 2, 1);
        is(d.meet(1, 2), 1);
        logIs(d, 2, 0, 1);
        logIs(d, 1, 0);
        logIs(d, 0);
        is(d.write(0, 4), 6);
        is(d.write(1, 4), 4);
        TentativeDesk most = bump(2, 0);
        for (int i = 0; i < 60; i++) {
            make(most, 1, i);
        }
        is(most.meet(1, 0), 0);
        is(most.copy(0, 1), 60);
        is(most.write(59, 4), 3);
        is(most.count(4), 60);
        is(most.write(59, 3), 59);
        is(most.meet(0, 1), 0);
        is(most.copy(1, 2), 60);
    }

    @Remark(promise = 10, terms = "II", says = "KNOWS as many of the ORDER as a does, if these are more.")
    static void promise10KnowsAsManyIfMore() {
        TentativeDesk d = bump(4, 0);
        make(d, 0, 0);
        is(d.meet(0, 1), 0);
        is(d.copy(1, 2), 1);
        is(d.meet(0, 2), 0);
        is(d.meet(1, 2), 0);
        is(d.copy(2, 2), 1);
        make(d, 0, 1);
        is(d.meet(0, 1), 0);
        is(d.copy(1, 2), 2);
        is(d.meet(2, 1), 0);
        is(d.copy(1, 2), 2);
        is(d.copy(2, 2), 1);
        is(d.meet(3, 1), 0);
        is(d.copy(1, 2), 2);
        is(d.meet(1, 3), 0);
        is(d.copy(3, 2), 2);
        make(d, 3, 2);
        is(d.meet(3, 2), 0);
        is(d.copy(2, 2), 2);
        is(d.copy(3, 2), 2);
    }

    @Remark(promise = 19, terms = "II", says = "DONE AGAIN: by as many as there are from that place on then.")
    static void promise19DoneAgain() {
        TentativeDesk d = bump(3, 2);
        is(d.meet(0, 1), 0);
        is(d.copy(1, 4), 0);
        make(d, 0, 0);
        is(d.meet(0, 1), 0);
        is(d.copy(1, 4), 1);
        is(d.meet(0, 1), 0);
        is(d.copy(1, 4), 1);
        make(d, 1, 1);
        is(d.meet(0, 1), 0);
        is(d.copy(1, 4), 1);
        make(d, 0, 2);
        make(d, 0, 3);
        is(d.meet(0, 1), 1);
        is(d.copy(1, 4), 4);
        is(d.copy(0, 4), 0);
        is(d.meet(1, 2), 0);
        is(d.copy(2, 4), 4);
        is(d.meet(2, 1), 0);
        is(d.copy(1, 4), 4);
        is(d.copy(1, 2), 4);
        is(d.meet(2, 0), 1);
        is(d.copy(0, 4), 2);
    }

    @Remark(promise = 10, terms = "II", says = "ROLLED of b: more by as many as there were in its LOG from the first place on"
        + " at which it is another one then (the shorter one's end, too);")
    static void promise10Rolled() {
        TentativeDesk d = bump(3, 0);
        rolls(d, 1, 2, 0, 0);
        make(d, 1, 0);
        make(d, 1, 1);
        rolls(d, 1, 2, 0, 2);
        rolls(d, 1, 2, 0, 0);
        rolls(d, 2, 1, 0, 0);
        make(d, 1, 2);
        rolls(d, 1, 2, 0, 1);
        make(d, 1, 3);
        make(d, 2, 4);
        rolls(d, 1, 2, 1, 2);
        logIs(d, 2, 0, 1, 2, 3, 4);
        rolls(d, 2, 1, 0, 1);
        make(d, 0, 5);
        rolls(d, 0, 1, 5, 6);
        rolls(d, 1, 0, 0, 5);
        rolls(d, 2, 0, 0, 0);
        rolls(d, 0, 1, 0, 0);
        is(d.copy(1, 2), 6);
        rolls(d, 0, 2, 5, 6);
        is(d.copy(2, 3), 6);
        is(d.copy(2, 4), 2 + 1 + 2 + 6);
        is(d.copy(1, 3), 5);
        is(d.copy(1, 4), 7);
        is(d.count(7), 11);
    }

    private static void rolls(TentativeDesk d, int a, int b, int rolled, int again) {
        int rolledAhead = d.copy(b, 3);
        int againAhead = d.copy(b, 4);
        is(d.meet(a, b), rolled);
        is(d.copy(b, 3), rolledAhead + rolled);
        is(d.copy(b, 4), againAhead + again);
    }

    @Remark(promise = 19, terms = "II", says = "(A WRITE made is not counted.)")
    static void promise19AWriteMadeIsNotCounted() {
        TentativeDesk d = bump(3, 0);
        make(d, 0, 0);
        make(d, 1, 1);
        make(d, 1, 2);
        is(d.lead(1), false);
        is(d.meet(0, 1), 2);
        is(d.copy(1, 3), 2);
        is(d.copy(1, 4), 3);
        is(d.lead(1), true);
        make(d, 1, 3);
        make(d, 1, 4);
        is(d.count(4), 5);
        is(d.copy(1, 3), 2);
        is(d.copy(1, 4), 3);
        is(d.copy(0, 3), 0);
        is(d.copy(0, 4), 0);
    }

    @Remark(promise = 6, terms = "II", says = "OPEN: a make, an ask opens the LOG of its copy first (REFUSED or FULL, too),")
    static void promise06OpenForMakesAndAsks() {
        TentativeDesk d = full();
        opened(d, 1, 60);
        opened(d, 0, 0);
        is(d.make(NONE, 2, 0, 0), NONE);
        opened(d, 2, 1);
        is(d.ask(0, 1, 0), 1);
        opened(d, 1, 61);
        is(d.promise(0, 15), true);
        opened(d, 1, 61);
        is(d.ask(0, 2, 0), 0);
        opened(d, 2, 2);
        is(d.make(0, 2, 0, 0), -2);
        opened(d, 2, 3);
        is(d.count(12), 64);
        is(d.count(13), 64);
        shutAre(d, 2, 2, 1, 2, 1, 1, 1, 1);
        is(d.make(4, 2, 0, 0), NONE);
        is(d.ask(4, 2, 0), NONE);
        is(d.count(12), 64);
        is(d.count(13), 64);
    }

    private static void opened(TentativeDesk d, int copy, int times) {
        is(d.copy(copy, 5), times);
        is(d.copy(copy, 6), times);
    }

    @Remark(promise = 11, terms = "II", says = "a lead that of the copy which leads then,")
    static void promise11OpenForALead() {
        TentativeDesk d = bump(3, 0);
        is(d.lead(2), true);
        opened(d, 2, 1);
        opened(d, 0, 0);
        shutAre(d, 2);
        is(d.lead(2), false);
        is(d.lead(3), false);
        is(d.count(12), 1);
        is(d.lead(0), true);
        shutAre(d, 0, 2);
        is(d.count(12), 2);
        is(d.count(13), 2);
    }

    @Remark(promise = 10, terms = "II", says = "a MEETING (by CHANCE, too) that of b, then that of a;")
    static void promise10OpenForMeetings() {
        TentativeDesk d = bump(3, 0);
        is(d.meet(1, 2), 0);
        opened(d, 1, 1);
        opened(d, 2, 1);
        opened(d, 0, 0);
        is(d.meet(1, 1), NONE);
        is(d.meet(1, 3), NONE);
        is(d.count(12), 2);
        is(d.chance(1), 1);
        is(d.count(12), 4);
        is(d.count(13), 4);
        is(d.chance(60), 61);
        is(d.count(12), 124);
        is(d.count(13), 124);
        is(d.chance(0), 61);
        is(d.count(12), 124);
    }

    @Remark(promise = 23, terms = "II", says = "all are shut in the reverse order, behind whatever came of it.")
    static void promise23ShutInTheReverseOrder() {
        TentativeDesk d = bump(3, 0);
        is(d.meet(1, 2), 0);
        shutAre(d, 2, 1);
        is(d.meet(0, 2), 0);
        shutAre(d, 2, 0, 2, 1);
        is(d.meet(2, 0), 0);
        shutAre(d, 0, 2, 2, 0, 2, 1);
        d = bump(5, 0);
        for (int m = 0; m < 20; m++) {
            is(d.chance(1), m + 1);
            is(d.shut(0), Due.taker(5, 0, m));
            is(d.shut(1), Due.giver(5, 0, m));
        }
        d = full();
        is(d.make(NONE, 2, 0, 0), NONE);
        is(d.shut(0), 2);
        is(d.promise(0, 2), true);
        is(d.ask(0, 1, 0), 1);
        is(d.ask(0, 0, 0), 0);
        is(d.shut(0), 0);
        is(d.shut(1), 1);
        for (int copy = 0; copy < 3; copy++) {
            is(d.copy(copy, 5), d.copy(copy, 6));
        }
    }

    @Remark(promise = 6, terms = "II", says = "FULL: a WRITE that would be the 61st and is not REFUSED: nothing else happens.")
    static void promise06Full() {
        TentativeDesk d = bump(3, 0);
        for (int i = 0; i < 59; i++) {
            make(d, 1, i);
        }
        is(d.make(2, 1, 0, 0), 59);
        is(d.promise(2, 8), true);
        is(d.make(2, 1, 0, 0), NONE);
        is(d.make(2, 0, 0, 0), -2);
        is(d.make(3, 0, 0, 0), NONE);
        is(d.make(NONE, 0, 0, 0), NONE);
        is(d.session(2, 1), 1);
        is(d.session(3, 1), 0);
        is(d.count(16), 1);
        is(d.of(2, 1, true), 60);
        is(d.of(3, 0, true), 0);
        is(d.count(3), 60);
        is(d.count(4), 0);
        is(d.copy(0, 0), 0);
        is(d.copy(0, 1), 0);
        is(d.copy(0, 2), 0);
        is(d.copy(1, 0), 60);
        is(d.copy(1, 4), 0);
        is(d.cell(1, 0, false), 60);
        opened(d, 0, 3);
        opened(d, 1, 61);
        is(d.make(3, 0, 1, 0), NONE);
        opened(d, 0, 3);
    }

    @Remark(promise = 7, terms = "II", says = "SESSIONS 0 .. 3:")
    static void promise07Sessions0To3() {
        TentativeDesk d = bump(3, 0);
        for (int session = 0; session <= 3; session++) {
            is(d.make(session, 0, 0, 0), session);
            is(d.ask(session, 0, 0), 1);
            is(d.promise(session, 1), true);
            is(d.may(session, false), 1);
        }
        for (int session : new int[] {-1, 4, MIN, MAX}) {
            is(d.ask(session, 0, 0), NONE);
            is(d.promise(session, 1), false);
            is(d.may(session, true), NONE);
            is(d.session(session, 0), NONE);
            is(d.of(session, 0, true), NONE);
            is(d.got(session), 0);
        }
        is(d.make(4, 0, 0, 0), NONE);
        is(d.make(-2, 0, 0, 0), NONE);
    }

    @Remark(promise = 21, terms = "II", says = "each has PROMISES (bits: 1 its reads see its WRITES, 2 its reads do not go"
        + " back, 4 its WRITES come behind what it read, 8 its WRITES come behind one another; 0 at first),")
    static void promise21NothingPromisedAtFirst() {
        TentativeDesk d = bump(3, 0);
        for (int session = 0; session < 4; session++) {
            is(d.session(session, 0), 0);
            is(d.promise(session, 0), false);
            is(d.make(session, 2, 0, 0), 2 * session);
            make(d, 1, 2 * session + 1);
            is(d.ask(session, 1, 0), 1);
            is(d.ask(session, 0, 0), 1);
            is(d.may(session, false), 7);
            is(d.may(session, true), 7);
        }
        int[] asks = {7, 4, 2, 0, 7, 4, 2, 0, 7, 4, 2, 0, 7, 4, 2, 0};
        int[] makes = {7, 7, 7, 7, 2, 2, 2, 2, 4, 4, 4, 4, 0, 0, 0, 0};
        for (int promises = 1; promises < 16; promises++) {
            is(d.promise(3, promises), true);
            is(d.may(3, false), asks[promises]);
            is(d.may(3, true), makes[promises]);
            is(d.may(2, false), 7);
        }
    }

    @Remark(promise = 22, terms = "II", says = "SEEN and OWN: VECTORS of 0 at first.")
    static void promise22SeenAndOwnAtFirst() {
        TentativeDesk d = bump(5, 0);
        for (int session = 0; session < 4; session++) {
            for (int origin = 0; origin < 5; origin++) {
                is(d.of(session, origin, false), 0);
                is(d.of(session, origin, true), 0);
            }
        }
        is(d.promise(1, 15), true);
        for (int copy = 0; copy < 5; copy++) {
            is(d.ask(1, copy, 0), 1);
        }
        is(d.may(1, true), 31);
        is(d.make(1, 3, 0, 0), 0);
        is(d.session(1, 0), 15);
        is(d.session(2, 0), 0);
        is(d.of(2, 3, true), 0);
    }

    @Remark(promise = 7, terms = "II",
        says = "A read of a CELL at a copy is REFUSED if the VECTOR there is less, for any ORIGIN, than OWN with promise 1,")
    static void promise07RefusedByOwn() {
        for (int origin = 0; origin < 5; origin++) {
            TentativeDesk d = bump(5, 0);
            int other = (origin + 1) % 5;
            is(d.promise(0, 1), true);
            is(d.make(0, origin, 0, 0), 0);
            is(d.ask(0, other, 0), 0);
            is(d.meet(origin, other), 0);
            is(d.ask(0, other, 0), 1);
            is(d.make(0, origin, 0, 0), 1);
            is(d.ask(0, other, 0), 0);
            is(d.ask(0, origin, 0), 1);
            make(d, origin, 2);
            is(d.meet(origin, other), 0);
            is(d.ask(0, other, 0), 1);
            is(d.session(0, 1), 2);
            for (int promises = 0; promises < 16; promises++) {
                is(d.promise(0, promises), true);
                is(d.may(0, false) == 31, (promises & 3) == 0);
            }
            is(d.make(1, origin, 0, 0), 3);
            is(d.promise(1, 14), true);
            is(d.may(1, false), 31);
            is(d.promise(1, 1), true);
            is(d.may(1, false), 1 << origin);
            is(d.make(3, 0, 0, 0), 4);
            is(d.promise(2, 15), true);
            is(d.may(2, false), 31);
            is(d.may(2, true), 31);
        }
    }

    @Remark(promise = 7, terms = "II", says = "or than SEEN with promise 2;")
    static void promise07RefusedBySeen() {
        for (int origin = 0; origin < 5; origin++) {
            TentativeDesk d = bump(5, 0);
            int other = (origin + 2) % 5;
            is(d.promise(0, 2), true);
            make(d, origin, 0);
            is(d.ask(0, other, 0), 1);
            is(d.ask(0, origin, 0), 1);
            is(d.ask(0, other, 0), 0);
            is(d.meet(origin, other), 0);
            is(d.ask(0, other, 0), 1);
            is(d.promise(0, 13), true);
            is(d.may(0, false), 31);
            is(d.promise(0, 2), true);
            is(d.may(0, false), 1 << origin | 1 << other);
            make(d, other, 1);
            is(d.ask(0, origin, 0), 1);
            is(d.session(0, 1), 1);
        }
    }

    @Remark(promise = 22, terms = "II", says = "else SEEN has of each ORIGIN the greater of both.")
    static void promise22SeenHasTheGreater() {
        TentativeDesk d = bump(3, 0);
        make(d, 1, 0);
        is(d.meet(1, 2), 0);
        make(d, 1, 1);
        make(d, 2, 2);
        make(d, 2, 3);
        is(d.ask(3, 1, 0), 1);
        seenIs(d, 0, 2, 0);
        is(d.ask(3, 2, 0), 1);
        seenIs(d, 0, 2, 3);
        is(d.ask(3, 0, 0), 1);
        seenIs(d, 0, 2, 3);
        is(d.promise(3, 2), true);
        make(d, 2, 4);
        is(d.ask(3, 2, 0), 0);
        seenIs(d, 0, 2, 3);
        is(d.of(3, 2, true), 0);
        is(d.of(2, 2, false), 0);
        is(d.ask(1, 2, 0), 1);
        is(d.of(1, 0, false), 0);
        is(d.of(1, 1, false), 1);
        is(d.of(1, 2, false), 4);
        is(d.make(3, 1, 0, 0), 5);
        seenIs(d, 0, 2, 3);
    }

    private static void seenIs(TentativeDesk d, int... stamps) {
        for (int origin = 0; origin < stamps.length; origin++) {
            is(d.of(3, origin, false), stamps[origin]);
        }
    }

    @Remark(promise = 6, terms = "II", says = "A WRITE at a copy is REFUSED if the VECTOR there is so less than SEEN with promise 4,")
    static void promise06RefusedBySeen() {
        for (int origin = 0; origin < 5; origin++) {
            TentativeDesk d = bump(5, 0);
            int other = (origin + 3) % 5;
            make(d, origin, 0);
            is(d.ask(0, origin, 0), 1);
            is(d.promise(0, 4), true);
            is(d.make(0, other, 0, 0), -2);
            is(d.promise(0, 11), true);
            is(d.may(0, true), 31);
            is(d.promise(0, 4), true);
            is(d.meet(origin, other), 0);
            is(d.make(0, other, 0, 0), 1);
            is(d.make(0, other, 0, 0), 2);
            make(d, origin, 3);
            is(d.ask(0, origin, 0), 1);
            is(d.make(0, other, 0, 0), -2);
            is(d.meet(origin, other) >= 0, true);
            is(d.make(0, other, 0, 0), 4);
            is(d.session(0, 1), 2);
            is(d.make(1, other, 0, 0), 5);
            is(d.promise(1, 7), true);
            is(d.may(1, true), 31);
        }
    }

    @Remark(promise = 6, terms = "II", says = "or than OWN with promise 8;")
    static void promise06RefusedByOwn() {
        for (int origin = 0; origin < 5; origin++) {
            TentativeDesk d = bump(5, 0);
            int other = (origin + 4) % 5;
            is(d.promise(0, 8), true);
            is(d.make(0, origin, 0, 0), 0);
            is(d.make(0, other, 0, 0), -2);
            is(d.promise(0, 7), true);
            is(d.may(0, true), 31);
            is(d.promise(0, 8), true);
            is(d.meet(origin, other), 0);
            is(d.make(0, other, 0, 0), 1);
            is(d.make(0, origin, 0, 0), -2);
            is(d.meet(other, origin), 0);
            make(d, origin, 2);
            is(d.make(0, origin, 0, 0), 3);
            is(d.session(0, 1), 2);
            is(d.ask(1, other, 0), 1);
            is(d.promise(1, 11), true);
            is(d.may(1, true), 31);
        }
    }

    @Remark(promise = 22, terms = "II", says = "else, if it is not FULL, OWN has for the copy the STAMP.")
    static void promise22OwnHasTheStamp() {
        TentativeDesk d = bump(3, 0);
        make(d, 1, 0);
        is(d.of(0, 1, true), 0);
        is(d.make(0, 1, 0, 0), 1);
        is(d.of(0, 1, true), 2);
        is(d.of(0, 0, true), 0);
        is(d.of(0, 2, true), 0);
        is(d.of(1, 1, true), 0);
        is(d.of(0, 1, false), 0);
        make(d, 2, 2);
        is(d.make(0, 2, 0, 0), 3);
        is(d.of(0, 2, true), 2);
        is(d.of(0, 1, true), 2);
        is(d.promise(0, 8), true);
        is(d.make(0, 1, 0, 0), -2);
        is(d.of(0, 1, true), 2);
        is(d.meet(2, 1), 1);
        is(d.make(0, 1, 0, 0), 4);
        is(d.of(0, 1, true), 3);
        d = full();
        is(d.make(0, 1, 0, 0), NONE);
        is(d.of(0, 1, true), 0);
    }

    // Promises 6 to 13.

    @Remark(promise = 6, says = "A WRITE is made at a copy, by a SESSION (0 .. 3) or none (NONE): its number;")
    static void promise06MakeBySessionsAndNone() {
        TentativeDesk d = Due.told(Scene.TEXT + "copies 5;primary 4;");
        for (int session = -1; session <= 3; session++) {
            is(d.make(session, session + 1, 3, MIN + session), session + 1);
            is(d.write(session + 1, 1), session + 1);
            for (int s = 0; s < 4; s++) {
                is(d.of(s, session + 1, true), s == session ? 1 : 0);
            }
        }
        is(d.count(3), 5);
        is(d.count(9), 5);
        is(d.count(4), 1);
    }

    @Remark(promise = 6, says = "-2: REFUSED (the SESSION has one more REFUSED);")
    static void promise06Refused() {
        TentativeDesk d = bump(3, 0);
        is(d.make(1, 1, 0, 0), 0);
        is(d.promise(1, 8), true);
        for (int i = 1; i <= 3; i++) {
            is(d.make(1, 2, 0, 5), -2);
            is(d.session(1, 1), i);
            is(d.count(16), i);
            opened(d, 2, i);
            is(d.count(9), 2 + i);
        }
        is(d.session(0, 1), 0);
        is(d.session(2, 1), 0);
        is(d.count(3), 1);
        is(d.copy(2, 1), 0);
        is(d.of(1, 2, true), 0);
        is(d.of(1, 1, true), 1);
        is(d.make(1, 1, 0, 0), 1);
        is(d.session(1, 1), 3);
        is(d.make(NONE, 2, 0, 0), 2);
    }

    @Remark(promise = 6, says = "NONE: no such ones (nothing happens), FULL.")
    static void promise06NoSuchOnes() {
        Look.unchanged(Scene::busy, d -> {
            for (int bad : new int[] {-2, 4, MIN, MAX}) {
                is(d.make(bad, 1, 0, 1), NONE);
                is(d.make(NONE, bad, 0, 1), NONE);
                is(d.make(1, 1, bad, 1), NONE);
            }
            is(d.make(NONE, -1, 0, 1), NONE);
            is(d.make(NONE, 3, 0, 1), NONE);
            is(d.make(0, 0, 4, 1), NONE);
            is(d.make(0, 0, -1, 1), NONE);
            is(d.make(0, 3, 0, 1), NONE);
        });
        TentativeDesk d = full();
        is(d.make(NONE, 1, 0, 0), NONE);
        is(d.count(9), 40);
        is(d.copy(1, 5), 61);
        is(d.make(NONE, 1, 1, 0), NONE);
        is(d.copy(1, 5), 61);
    }

    @Remark(promise = 7, says = "A SESSION reads a CELL at a copy: 1;")
    static void promise07Ask() {
        TentativeDesk d = Due.told(Scene.TEXT + "copies 5;");
        for (int session = 0; session <= 3; session++) {
            is(d.ask(session, 4 - session, session % 2), 1);
            is(d.got(session), 1 + session % 2);
            is(d.shut(0), 4 - session);
        }
        is(d.ask(3, 0, 1), 1);
        is(d.ask(3, 4, 1), 1);
        is(d.count(9), 6);
        is(d.count(16), 0);
    }

    @Remark(promise = 7, says = "0: REFUSED (it has one more REFUSED);")
    static void promise07Refused() {
        TentativeDesk d = bump(3, 0);
        make(d, 1, 0);
        is(d.ask(2, 1, 0), 1);
        is(d.got(2), 1);
        is(d.promise(2, 2), true);
        make(d, 2, 1);
        make(d, 2, 2);
        for (int i = 1; i <= 3; i++) {
            is(d.ask(2, 2, 0), 0);
            is(d.session(2, 1), i);
            is(d.count(16), i);
            is(d.got(2), 1);
            is(d.of(2, 2, false), 0);
            is(d.of(2, 1, false), 1);
            opened(d, 2, 2 + i);
            is(d.count(9), 5 + i);
        }
        is(d.session(1, 1), 0);
        is(d.ask(1, 2, 0), 1);
        is(d.got(1), 2);
    }

    @Remark(promise = 7, says = "NONE, and nothing happens: no such ones.")
    static void promise07NoSuchOnes() {
        Look.unchanged(Scene::busy, d -> {
            for (int bad : new int[] {-1, 4, MIN, MAX}) {
                is(d.ask(bad, 1, 0), NONE);
                is(d.ask(1, bad, 0), NONE);
                is(d.ask(1, 1, bad), NONE);
            }
            is(d.ask(1, 3, 0), NONE);
            is(d.ask(1, 1, 2), NONE);
            is(d.ask(0, 0, 2), NONE);
        });
        TentativeDesk d = Due.told("");
        is(d.ask(0, 0, 0), NONE);
        is(d.count(12), 0);
    }

    @Remark(promise = 8, says = "What the latest ask of a SESSION that was not REFUSED told; 0: none yet, no such one.")
    static void promise08Got() {
        TentativeDesk d = Scene.told();
        for (int session = -1; session <= 4; session++) {
            is(d.got(session), 0);
        }
        is(d.ask(0, 0, 1), 1);
        is(d.ask(3, 0, 0), 1);
        is(d.got(0), 2);
        is(d.got(1), 0);
        is(d.got(3), 1);
        is(d.make(0, 1, 0, 4), 0);
        is(d.got(0), 2);
        is(d.promise(0, 1), true);
        is(d.ask(0, 0, 0), 0);
        is(d.got(0), 2);
        is(d.ask(0, 9, 0), NONE);
        is(d.got(0), 2);
        is(d.ask(0, 1, 0), 1);
        is(d.got(0), 5);
        is(d.make(NONE, 1, 0, 2), 1);
        is(d.got(0), 5);
        is(d.got(4), 0);
        is(d.got(-1), 0);
        is(d.got(MIN), 0);
        is(d.got(MAX), 0);
        is(d.undo() && d.undo(), true);
        is(d.got(0), 2);
    }

    @Remark(promise = 9, says = "A SESSION's PROMISES are set (0 .. 15): true;")
    static void promise09Promises0To15() {
        TentativeDesk d = Scene.told();
        for (int session = 0; session < 4; session++) {
            is(d.promise(session, 15), true);
            is(d.session(session, 0), 15);
            is(d.promise(session, 0), true);
            is(d.session(session, 0), 0);
        }
        for (int promises = 1; promises <= 15; promises++) {
            is(d.promise(2, promises), true);
            is(d.session(2, 0), promises);
            is(d.session(1, 0), 0);
        }
        is(d.count(9), 23);
        is(d.count(12), 0);
    }

    @Remark(promise = 9, says = "false, and nothing happens: they are so, no such ones.")
    static void promise09NothingHappens() {
        Look.unchanged(Scene::busy, d -> {
            is(d.promise(0, 15), false);
            is(d.promise(1, 0), false);
            is(d.promise(0, 16), false);
            is(d.promise(0, -1), false);
            is(d.promise(0, MIN), false);
            is(d.promise(0, MAX), false);
            is(d.promise(-1, 3), false);
            is(d.promise(4, 3), false);
            is(d.promise(MIN, 3), false);
            is(d.promise(MAX, 3), false);
        });
    }

    @Remark(promise = 10, says = "A MEETING of a to b: by how many ROLLED of b is more;")
    static void promise10Meet() {
        TentativeDesk d = bump(5, 4);
        is(d.meet(0, 4), 0);
        is(d.meet(4, 0), 0);
        make(d, 0, 0);
        make(d, 1, 1);
        make(d, 1, 2);
        is(d.meet(0, 1), 2);
        is(d.copy(1, 3), 2);
        is(d.meet(1, 0), 0);
        is(d.copy(0, 3), 0);
        make(d, 4, 3);
        is(d.meet(4, 1), 3);
        is(d.copy(1, 3), 5);
        is(d.meet(4, 1), 0);
        is(d.copy(1, 3), 5);
        is(d.count(9), 10);
    }

    @Remark(promise = 10, says = "NONE, and nothing happens: one and the same, no such copies.")
    static void promise10NothingHappens() {
        Look.unchanged(Scene::busy, d -> {
            for (int copy = 0; copy < 3; copy++) {
                is(d.meet(copy, copy), NONE);
            }
            for (int bad : new int[] {-1, 3, 4, MIN, MAX}) {
                is(d.meet(bad, 1), NONE);
                is(d.meet(1, bad), NONE);
                is(d.meet(bad, bad), NONE);
            }
        });
        TentativeDesk d = bump(1, 0);
        is(d.meet(0, 0), NONE);
        is(d.meet(0, 1), NONE);
        is(d.count(12), 0);
    }

    @Remark(promise = 11, says = "false, and nothing happens: it is, it KNOWS not all of the ORDER, no such one.")
    static void promise11NothingHappens() {
        Look.unchanged(Scene::busy, d -> {
            is(d.lead(0), false);
            is(d.lead(1), false);
            is(d.lead(2), false);
            is(d.lead(3), false);
            is(d.lead(-1), false);
            is(d.lead(MIN), false);
            is(d.lead(MAX), false);
        });
        TentativeDesk d = bump(5, 4);
        is(d.lead(4), false);
        is(d.lead(5), false);
        make(d, 4, 0);
        make(d, 4, 1);
        is(d.meet(4, 2), 0);
        make(d, 4, 2);
        is(d.copy(2, 2), 2);
        is(d.lead(2), false);
        is(d.lead(3), false);
        is(d.count(5), 4);
        is(d.meet(4, 2), 0);
        is(d.lead(2), true);
        is(d.lead(2), false);
    }

    @Remark(promise = 11, says = "Another copy is the PRIMARY: true;")
    static void promise11Lead() {
        TentativeDesk d = bump(5, 0);
        is(d.lead(4), true);
        is(d.count(5), 4);
        is(d.lead(1), true);
        is(d.lead(0), true);
        is(d.count(5), 0);
        is(d.count(9), 3);
        make(d, 0, 0);
        make(d, 0, 1);
        is(d.meet(0, 2), 0);
        make(d, 2, 2);
        is(d.lead(2), true);
        is(d.count(5), 2);
        is(d.count(4), 2);
        is(d.copy(2, 2), 2);
        make(d, 0, 3);
        is(d.count(4), 2);
        make(d, 2, 4);
        is(d.count(4), 4);
        is(d.undo() && d.undo() && d.undo(), true);
        is(d.count(5), 0);
        make(d, 0, 3);
        is(d.count(4), 3);
    }

    @Remark(promise = 12, says = "n MEETINGS by CHANCE (0 .. 60; 0 is no thing done): how many there were of these in all;")
    static void promise12Chance() {
        TentativeDesk d = bump(3, 0);
        is(d.chance(0), 0);
        is(d.count(9), 0);
        is(d.undo(), false);
        is(d.chance(1), 1);
        is(d.count(9), 1);
        is(d.chance(60), 61);
        is(d.count(9), 2);
        is(d.chance(0), 61);
        is(d.count(9), 2);
        is(d.count(6), 61);
        is(d.count(12), 122);
        is(d.undo(), true);
        is(d.count(6), 1);
        is(d.count(12), 2);
        Look.unchanged(Scene::busy, e -> is(e.chance(0), 2));
    }

    @Remark(promise = 12, says = "NONE, and nothing happens: no such n.")
    static void promise12NoSuchN() {
        Look.unchanged(Scene::busy, d -> {
            is(d.chance(61), NONE);
            is(d.chance(-1), NONE);
            is(d.chance(MIN), NONE);
            is(d.chance(MAX), NONE);
        });
    }

    @Remark(promise = 13, says = "The last thing done (make, also REFUSED or FULL, ask, also REFUSED, promise, meet, lead, chance)"
        + " is undone: true;")
    static void promise13EachThingIsUndone() {
        Look.undone(Scene::busy, d -> is(d.make(NONE, 2, 0, 1), 4), 1);
        Look.undone(Scene::busy, d -> is(d.make(1, 0, 0, 1), 4), 1);
        Look.undone(Scene::busy, d -> is(d.make(0, 0, 0, 1), -2), 1);
        Look.undone(Scene::busy, d -> is(d.ask(1, 2, 1), 1), 1);
        Look.undone(Scene::busy, d -> is(d.ask(0, 0, 1), 0), 1);
        Look.undone(Scene::busy, d -> is(d.promise(3, 1), true), 1);
        Look.undone(Scene::busy, d -> is(d.meet(2, 0), 0), 1);
        Look.undone(Scene::busy, d -> is(d.meet(0, 2), 3), 1);
        Look.undone(Scene::busy, d -> is(d.chance(1), 3), 1);
        Look.undone(Scene::busy, d -> is(d.chance(60), 62), 1);
        Look.undone(d -> {
            Scene.busy(d);
            is(d.meet(0, 2), 3);
        }, d -> is(d.lead(2), true), 1);
        Look.undone(Scene::busy, d -> {
            is(d.meet(0, 1) >= 0, true);
            is(d.meet(1, 0) >= 0, true);
            is(d.make(NONE, 0, 1, 3), 4);
            is(d.chance(2), 4);
        }, 4);
        TentativeDesk d = full();
        is(d.make(0, 2, 0, 0), NONE);
        opened(d, 2, 1);
        is(d.undo(), true);
        opened(d, 2, 0);
        is(d.shut(0), 1);
        is(d.count(3), 60);
        is(d.undo(), true);
        is(d.count(3), 59);
    }

    @Remark(promise = 13, says = "false: there is none (the last 40 can be).")
    static void promise13TheLast40() {
        TentativeDesk d = bump(3, 0);
        is(d.undo(), false);
        for (int i = 0; i < 40; i++) {
            make(d, 1, i);
            is(d.count(9), i + 1);
        }
        make(d, 2, 40);
        is(d.count(9), 40);
        for (int i = 40; i >= 1; i--) {
            is(d.count(3), i + 1);
            is(d.undo(), true);
            is(d.count(9), i - 1);
        }
        is(d.count(3), 1);
        is(d.undo(), false);
        is(d.count(3), 1);
        make(d, 0, 1);
        is(d.undo(), true);
        is(d.undo(), false);
        d = bump(3, 0);
        for (int i = 0; i < 39; i++) {
            is(d.chance(1), i + 1);
        }
        is(d.promise(0, 1), true);
        for (int i = 0; i < 40; i++) {
            is(d.undo(), true);
        }
        is(d.undo(), false);
        is(d.count(6), 0);
    }

    @Remark(promise = 13, says = "false: there is none")
    static void promise13WhatIsNoThingDone() {
        TentativeDesk d = Scene.told();
        is(d.chance(0), 0);
        is(d.hold(0), true);
        is(d.promise(0, 0), false);
        is(d.meet(1, 1), NONE);
        is(d.lead(0), false);
        is(d.make(NONE, 3, 0, 0), NONE);
        is(d.ask(0, 0, 9), NONE);
        is(d.chance(61), NONE);
        Due.feed(d, "?");
        is(d.back(1), 0);
        is(d.count(9), 0);
        is(d.undo(), false);
        is(d.meet(1, 2), 0);
        Due.feed(d, "copies 7;");
        is(d.read(), 5);
        is(d.count(9), 1);
        is(d.undo(), true);
        is(d.undo(), false);
        Look.unchanged(e -> {
            Scene.busy(e);
            is(e.hold(2) && e.restore(2), true);
        }, e -> {
            is(e.undo(), false);
            is(e.undo(), false);
        });
    }
}
