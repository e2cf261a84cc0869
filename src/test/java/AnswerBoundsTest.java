/** The edges of terms III and of promises 14 to 42: a test for each sentence that names one. */
public final class AnswerBoundsTest {
    private static final int NONE = TentativeDesk.NONE;
    private static final int MIN = Integer.MIN_VALUE;
    private static final int MAX = Integer.MAX_VALUE;

    /** One form: a is one more. */
    private static final String BUMP = "cell a 0;form f needs 0<1 sets a a+1;";

    /** Forms: 0 a is 1, 1 SET if a is 1 else IDLE, 2 the same else MERGED, 3 SET if a is 1, STUCK if 0, 4 b is a, 5 a is 0. */
    private static final String HANG = "cell a 0;cell b 0;form one needs 0<1 sets a 1;form iff needs a=1 sets b b+1;"
        + "form els needs a=1 sets b 1 else b 2;form div needs 1/a=1 sets b 7;form val needs 0<1 sets b a;"
        + "form zero needs 0<1 sets a 0;";

    private AnswerBoundsTest() {
    }

    public static void main(String[] args) {
        Remarked.runAll(AnswerBoundsTest.class, args);
    }

    private static void is(long got, long want) {
        Due.is(got, want);
    }

    private static void is(boolean got, boolean want) {
        Due.is(got, want);
    }

    private static TentativeDesk bump(int copies, int primary) {
        return Due.told(BUMP + "copies " + copies + ";primary " + primary + ";");
    }

    /** Makes a write of form 0 by no session and looks at its number. */
    private static void make(TentativeDesk d, int copy, int number) {
        make(d, copy, 0, number);
    }

    private static void make(TentativeDesk d, int copy, int form, int number) {
        is(d.make(NONE, copy, form, 0), number);
    }

    private static void makeAll(TentativeDesk d, int copy, int... forms) {
        for (int form : forms) {
            make(d, copy, form, d.count(3));
        }
    }

    private static boolean isSettled(TentativeDesk d) {
        return d.count(10) == 1 && d.count(4) == d.count(3);
    }

    // The terms, III.

    @Remark(promise = 24, terms = "III", says = "LACKS of a to b: WRITES that a has and b has not.")
    static void promise24LacksOfNoneAndAll() {
        TentativeDesk d = bump(2, 0);
        is(d.lacks(0, 1), 0);
        for (int i = 0; i < 60; i++) {
            make(d, 1, i);
        }
        is(d.lacks(1, 0), 60);
        is(d.lacks(0, 1), 0);
        is(d.lacks(1, 1), 0);
        is(d.meet(1, 0), 0);
        is(d.lacks(1, 0), 0);
        d = bump(3, 0);
        make(d, 1, 0);
        make(d, 2, 1);
        make(d, 2, 2);
        is(d.lacks(1, 2), 1);
        is(d.lacks(2, 1), 2);
        is(d.meet(0, 1), 0);
        is(d.meet(1, 2), 2);
        is(d.lacks(1, 2), 0);
        is(d.lacks(2, 1), 2);
    }

    @Remark(promise = 25, terms = "III", says = "WOULD: by how many ROLLED of b would be more, if a met it now.")
    static void promise25Would() {
        TentativeDesk d = bump(3, 0);
        is(d.would(1, 2), 0);
        make(d, 1, 0);
        make(d, 1, 1);
        is(d.would(1, 2), 0);
        is(d.would(2, 1), 0);
        make(d, 2, 2);
        is(d.would(1, 2), 1);
        is(d.would(2, 1), 1);
        make(d, 0, 3);
        is(d.would(0, 1), 2);
        is(d.would(1, 0), 0);
        is(d.copy(1, 3), 0);
        is(d.count(12), 4);
        is(d.meet(0, 1), 2);
        is(d.would(0, 1), 0);
        is(d.would(1, 2), 1);
        is(d.meet(2, 0), 0);
        is(d.would(0, 1), 2);
        is(d.meet(0, 1), 2);
        is(d.copy(1, 3), 4);
    }

    @Remark(promise = 26, terms = "III", says = "DIFFER of two copies: CELLS that are unlike there.")
    static void promise26DifferOfNoneAndAll() {
        is(new TentativeDesk().differ(0, 1), 0);
        TentativeDesk d = Due.told("cell a 1;cell b 2;cell c 3;cell d 4;cell e 5;cell f 6;form p needs x=0 sets a 9 else f 9;"
            + "form q needs x=0 sets b 9 else e 9;form r needs x=0 sets c 9 else d 9;form same needs 0<1 sets a 1;");
        is(d.differ(0, 1), 0);
        is(d.make(NONE, 1, 3, 0), 0);
        is(d.differ(0, 1), 0);
        is(d.make(NONE, 1, 0, 0), 1);
        is(d.differ(0, 1), 1);
        is(d.make(NONE, 1, 0, 1), 2);
        is(d.differ(1, 0), 33);
        for (int i = 0; i < 4; i++) {
            is(d.make(NONE, 1, 1 + i % 2, i / 2), 3 + i);
        }
        is(d.differ(0, 1), 63);
        is(d.differ(1, 1), 0);
        is(d.differ(0, 2), 0);
        is(d.make(NONE, 2, 0, 1), 7);
        is(d.differ(1, 2), 31);
    }

    @Remark(promise = 27, terms = "III", says = "ALIKE: two copies that have the same WRITES and KNOW as many.")
    static void promise27Alike() {
        TentativeDesk d = bump(3, 0);
        is(d.alike(0, 1), 1);
        make(d, 0, 0);
        is(d.alike(0, 1), 0);
        is(d.alike(1, 2), 1);
        make(d, 1, 1);
        is(d.alike(0, 1), 0);
        is(d.alike(1, 2), 0);
        make(d, 2, 2);
        is(d.alike(1, 2), 0);
        is(d.undo(), true);
        is(d.meet(1, 2), 0);
        is(d.alike(1, 2), 1);
        is(d.meet(2, 0), 0);
        is(d.meet(0, 1), 1);
        is(d.alike(0, 1), 1);
        make(d, 2, 2);
        is(d.meet(2, 0), 0);
        is(d.alike(0, 2), 0);
        is(d.meet(1, 2), 2);
        is(d.lacks(0, 2) + d.lacks(2, 0), 0);
        is(d.alike(0, 2), 0);
        is(d.differ(0, 2), 0);
        is(d.meet(0, 2), 0);
        is(d.alike(0, 2), 1);
    }

    @Remark(promise = 28, terms = "III", says = {"HANGS of a WRITE at a copy: of the WRITES behind it in the LOG there how many"
        + " would come out otherwise (0 .. 3) if it were not in the LOG;", "the first of them there."})
    static void promise28Hangs() {
        TentativeDesk d = Due.told(HANG);
        makeAll(d, 1, 0, 1, 2, 3, 4, 0, 1);
        hang(d, 1, 0, 3, 1);
        for (int write = 1; write < 7; write++) {
            hang(d, 1, write, 0, -2);
        }
        d = Due.told(HANG.replace("cell a 0", "cell a 1"));
        makeAll(d, 1, 1, 5, 4, 3, 2, 1);
        hang(d, 1, 0, 0, -2);
        hang(d, 1, 1, 3, 3);
        makeAll(d, 2, 0, 0, 1);
        hang(d, 2, 6, 0, -2);
        is(d.meet(1, 2), 3);
        hang(d, 2, 1, 0, -2);
        is(d.log(2, 2), 1);
        is(d.log(2, 3), 7);
        hang(d, 2, 7, 4, 8);
        hang(d, 1, 1, 3, 3);
        d = Due.told("cell a 0;form f needs a=x sets a a+1;");
        for (int i = 0; i < 60; i++) {
            is(d.make(NONE, 1, 0, i), i);
        }
        hang(d, 1, 0, 59, 1);
        hang(d, 1, 30, 29, 31);
        hang(d, 1, 58, 1, 59);
        hang(d, 1, 59, 0, -2);
        d = Due.told("cell a 0;cell b 0;cell c 0;cell d 0;cell e 0;cell f 0;form p needs 0<1 sets f 1;"
            + "form q needs f=1 sets a 1;form r needs f<1 sets a 1;");
        makeAll(d, 1, 0, 1, 2, 0, 1);
        hang(d, 1, 0, 2, 1);
        hang(d, 1, 3, 0, -2);
    }

    private static void hang(TentativeDesk d, int copy, int write, int many, int first) {
        is(d.hangs(copy, write, 0), many);
        is(d.hangs(copy, write, 1), first);
    }

    @Remark(promise = 37, terms = "III", says = "CLASH of a copy: the first WRITE of its LOG that does not come out as SET.")
    static void promise37FirstOfTheLog() {
        TentativeDesk d = Due.told(HANG);
        is(d.clash(1), -2);
        makeAll(d, 1, 0, 1, 2, 3);
        is(d.clash(1), -2);
        makeAll(d, 1, 5, 1);
        is(d.clash(1), 5);
        makeAll(d, 1, 2);
        is(d.clash(1), 5);
        makeAll(d, 2, 2);
        is(d.clash(2), 7);
        is(d.meet(2, 1), 6);
        is(d.clash(1), 5);
        is(d.log(1, 1), 7);
        makeAll(d, 0, 3);
        is(d.clash(0), 8);
        is(d.meet(0, 2), 1);
        is(d.clash(2), 8);
    }

    @Remark(promise = 30, terms = "III", says = "FORK of two copies: how many WRITES their LOGS begin alike with.")
    static void promise30ForkOfNoneAndAll() {
        TentativeDesk d = bump(3, 0);
        is(d.fork(1, 2), 0);
        make(d, 1, 0);
        is(d.fork(1, 2), 0);
        is(d.fork(1, 1), 1);
        is(d.meet(1, 2), 0);
        is(d.fork(1, 2), 1);
        make(d, 2, 1);
        is(d.fork(1, 2), 1);
        is(d.fork(2, 1), 1);
        make(d, 1, 2);
        is(d.fork(1, 2), 1);
        is(d.meet(1, 2), 1);
        is(d.fork(1, 2), 2);
        is(d.meet(2, 1), 0);
        is(d.fork(1, 2), 3);
        make(d, 0, 3);
        is(d.meet(0, 1), 3);
        is(d.fork(1, 2), 0);
        is(d.fork(0, 1), 1);
    }

    @Remark(promise = 31, terms = "III", says = {"KEY of a copy: the WRITE of its LOG on which most HANG there, one at least,",
        "of alike ones the first of the LOG; how many."})
    static void promise31Key() {
        TentativeDesk d = Due.told(HANG);
        keyIs(d, -2, -2);
        makeAll(d, 1, 0);
        keyIs(d, -2, -2);
        makeAll(d, 1, 4);
        keyIs(d, -2, -2);
        makeAll(d, 1, 1);
        keyIs(d, 0, 1);
        makeAll(d, 1, 3);
        keyIs(d, 0, 2);
        makeAll(d, 1, 5, 2);
        keyIs(d, 0, 2);
        makeAll(d, 1, 1);
        keyIs(d, 0, 2);
        makeAll(d, 1, 3);
        keyIs(d, 4, 3);
        d = Due.told(HANG);
        makeAll(d, 2, 0, 1);
        makeAll(d, 1, 5, 1);
        keyIs(d, -2, -2);
        is(d.key(2, 0), 0);
        is(d.meet(1, 2), 2);
        is(d.log(2, 0), 2);
        is(d.log(2, 1), 0);
        is(d.key(2, 0), 0);
        is(d.key(2, 1), 2);
        d = Due.told("cell a 0;cell b 0;form p needs 0<1 sets a 1;form q needs 0<1 sets b 1;form both needs a+b=2 sets a 1;");
        makeAll(d, 2, 0);
        makeAll(d, 1, 1);
        makeAll(d, 1, 2);
        is(d.meet(2, 1), 1);
        is(d.log(1, 0), 1);
        is(d.log(1, 1), 0);
        keyIs(d, 1, 1);
    }

    private static void keyIs(TentativeDesk d, int write, int many) {
        is(d.key(1, 0), write);
        is(d.key(1, 1), many);
    }

    @Remark(promise = 32, terms = "III", says = "SHARE of a copy: in floats of 32 bits: 1,000 times how many WRITES it has, by how"
        + " many there are (none: 0), cut off.")
    static void promise32ShareOfNoneAndAll() {
        TentativeDesk d = bump(5, 0);
        int[] has = new int[5];
        for (int copy = 0; copy < 5; copy++) {
            is(d.share(copy), 0);
        }
        for (int i = 0; i < 60; i++) {
            int copy = i * i % 7 % 4;
            make(d, copy, i);
            has[copy]++;
            for (int c = 0; c < 5; c++) {
                is(d.share(c), 1000 * has[c] / (i + 1));
            }
        }
        is(d.meet(1, 2) + d.meet(2, 3) + d.meet(3, 0) + d.meet(0, 4) >= 0, true);
        is(d.share(4), 1000);
        d = bump(3, 0);
        make(d, 1, 0);
        is(d.share(1), 1000);
        make(d, 1, 1);
        make(d, 2, 2);
        is(d.share(1), 666);
        is(d.share(2), 333);
    }

    @Remark(promise = 33, terms = "III", says = "SETTER of a CELL at a copy: the last WRITE of its LOG that changed it (SET or MERGED"
        + " into it, be it to what it had).")
    static void promise33Setter() {
        TentativeDesk d = Due.told(HANG);
        is(d.setter(1, 0), -2);
        makeAll(d, 1, 5);
        is(d.setter(1, 0), 0);
        is(d.setter(1, 1), -2);
        makeAll(d, 1, 2);
        is(d.setter(1, 1), 1);
        makeAll(d, 1, 2);
        is(d.setter(1, 1), 2);
        makeAll(d, 1, 1, 3);
        is(d.outcome(1, 3), 2);
        is(d.outcome(1, 4), 3);
        is(d.setter(1, 1), 2);
        is(d.setter(1, 0), 0);
        makeAll(d, 2, 4);
        is(d.setter(2, 1), 5);
        is(d.meet(2, 1), 4);
        is(d.log(1, 1), 5);
        is(d.setter(1, 1), 2);
        is(d.setter(0, 1), -2);
        d = Due.told("cell a 1;cell b 2;form f needs 1<0 sets a 1 else b 2;");
        makeAll(d, 1, 0);
        is(d.setter(1, 0), -2);
        is(d.setter(1, 1), 0);
    }

    @Remark(promise = 35, terms = "III", says = "MAY: whether an ask, a make of a SESSION at a copy would not be REFUSED now.")
    static void promise35May() {
        TentativeDesk d = bump(5, 0);
        for (int i = 0; i < 59; i++) {
            is(d.make(i == 0 ? 2 : NONE, 1, 0, 0), i);
        }
        is(d.promise(2, 9), true);
        is(d.may(2, true), 2);
        is(d.may(2, false), 2);
        is(d.meet(1, 4), 0);
        is(d.may(2, true), 18);
        make(d, 0, 59);
        is(d.make(NONE, 0, 0, 0), NONE);
        is(d.may(2, true), 18);
        is(d.may(3, true), 31);
        is(d.promise(2, 1), true);
        is(d.may(2, true), 31);
        is(d.may(2, false), 18);
        is(d.promise(2, 8), true);
        is(d.may(2, true), 18);
        is(d.may(2, false), 31);
        is(d.session(2, 1), 0);
        is(d.count(12), 63);
    }

    @Remark(promise = 36, terms = "III", says = {"PLAN: the fewest copies which, each meeting the PRIMARY now, bring it all WRITES that"
        + " any copy has, of as few the least bits;", "then the copies that it must meet so that all are ALIKE."})
    static void promise36Plan() {
        TentativeDesk d = bump(1, 0);
        planIs(d, 0, 0);
        make(d, 0, 0);
        planIs(d, 0, 0);
        d = bump(5, 4);
        planIs(d, 0, 0);
        make(d, 1, 0);
        make(d, 1, 1);
        is(d.meet(1, 0), 0);
        planIs(d, 1, 15);
        make(d, 2, 2);
        make(d, 2, 3);
        planIs(d, 5, 15);
        is(d.meet(2, 0), 1);
        planIs(d, 1, 15);
        make(d, 1, 4);
        planIs(d, 3, 15);
        make(d, 2, 5);
        planIs(d, 6, 15);
        is(d.meet(0, 4), 0);
        planIs(d, 6, 15);
        is(d.meet(1, 4) + d.meet(2, 4), 0);
        planIs(d, 0, 15);
        is(d.meet(4, 3), 0);
        planIs(d, 0, 7);
        is(d.meet(4, 0) + d.meet(4, 1) + d.meet(4, 2) >= 0, true);
        planIs(d, 0, 0);
        d = bump(5, 4);
        make(d, 0, 0);
        make(d, 1, 1);
        is(d.meet(1, 3), 0);
        is(d.meet(0, 1), 1);
        make(d, 2, 2);
        is(d.meet(2, 3), 0);
        planIs(d, 6, 15);
        is(d.meet(1, 3), 2);
        planIs(d, 8, 15);
    }

    private static void planIs(TentativeDesk d, int givers, int takers) {
        is(d.plan(1), givers);
        is(d.plan(2), takers);
        is(d.plan(0), Integer.bitCount(givers) + Integer.bitCount(takers));
    }

    @Remark(promise = 12, terms = "III", says = {"CHANCE: MEETING number m (all by chance are counted, from 0 on):",
        "of a, LOT of how many copies there are of the SEED and 2 * m,"})
    static void promise12CountedFrom0() {
        TentativeDesk d = Due.told(BUMP + "copies 4;seed 31;");
        metIs(d, 4, 31, 0);
        metIs(d, 4, 31, 1);
        is(d.meet(0, 1), 0);
        metIs(d, 4, 31, 2);
        is(d.chance(3), 6);
        metIs(d, 4, 31, 6);
        is(d.undo() && d.undo(), true);
        metIs(d, 4, 31, 3);
        is(d.chance(0), 4);
        is(d.hold(0), true);
        metIs(d, 4, 31, 4);
        is(d.restore(0), true);
        metIs(d, 4, 31, 4);
        make(d, 1, 0);
        is(d.soon() > 0, true);
        is(d.year(60, 3), 3);
        is(d.count(6), 5);
        metIs(d, 4, 31, 5);
        Due.feed(d, "copies 4;seed 31;");
        is(d.read(), 0);
        metIs(d, 4, 31, 0);
        is(d.chance(60) + d.chance(60) + d.chance(60), 61 + 121 + 181);
        metIs(d, 4, 31, 181);
    }

    private static void metIs(TentativeDesk d, int copies, int seed, int m) {
        is(d.chance(1), m + 1);
        is(d.shut(0), Due.taker(copies, seed, m));
        is(d.shut(1), Due.giver(copies, seed, m));
    }

    @Remark(promise = 12, terms = "III",
        says = "to b: a and 1 and LOT of one fewer of the SEED and 2 * m + 1, the rest by how many copies")
    static void promise12TheRestByHowManyCopies() {
        for (int copies = 2; copies <= 5; copies++) {
            TentativeDesk d = Due.told("copies " + copies + ";seed 8;");
            int pairs = 0;
            for (int m = 0; m < 120; m++) {
                is(d.chance(1), m + 1);
                int b = d.shut(0);
                int a = d.shut(1);
                is(a, Due.giver(copies, 8, m));
                is(b, Due.taker(copies, 8, m));
                is(a != b, true);
                pairs |= 1 << b * copies + a;
            }
            is(Integer.bitCount(pairs), copies * (copies - 1));
        }
    }

    @Remark(promise = 12, terms = "III", says = "(one copy alone: none, it is counted).")
    static void promise12OneCopyAlone() {
        TentativeDesk d = bump(1, 0);
        make(d, 0, 0);
        is(d.chance(1), 1);
        is(d.chance(60), 61);
        is(d.count(6), 61);
        is(d.count(12), 1);
        is(d.shut(1), -2);
        is(d.copy(0, 4), 0);
        is(d.count(9), 3);
        is(d.undo(), true);
        is(d.count(6), 1);
        is(d.soon(), 0);
        is(d.year(60, 20), 20);
    }

    @Remark(promise = 12, terms = "III", says = {"LOT n of a SEED and a which: h is the SEED; for each of 223, which: h becomes (h and it,"
        + " each bit of which is in just one) times 1103515245 and 12345 more, then h and h moved 15 bits down (zeros come in),"
        + " likewise;", "the rest of h, moved 1 bit down likewise, by n (32 bits that wrap)."})
    static void promise12Lots() {
        for (int seed : new int[] {0, 1, 223, 4096, 9999}) {
            for (int copies = 2; copies <= 5; copies++) {
                TentativeDesk d = Due.told("copies " + copies + ";seed " + seed + ";");
                for (int m = 0; m < 60; m++) {
                    metIs(d, copies, seed, m);
                }
            }
        }
    }

    @Remark(promise = 38, terms = "III", says = "SOON: behind how many MEETINGS by CHANCE (0 .. 60), from now on, all copies are ALIKE"
        + " and all WRITES have their place in the ORDER first.")
    static void promise38Soon0To60() {
        soonIs(36, 3, 59);
        soonIs(36, 2, 60);
        soonIs(18, 1, 61);
        is(bump(5, 0).soon(), 0);
        TentativeDesk d = bump(2, 0);
        make(d, 1, 0);
        is(d.lead(1), true);
        is(d.meet(1, 0), 0);
        is(d.alike(0, 1), 1);
        is(d.soon(), -2);
        make(d, 1, 1);
        int soon = d.soon();
        is(soon >= 1, true);
        is(d.chance(soon), soon);
        is(isSettled(d), true);
        is(d.soon(), 0);
        is(d.chance(5), soon + 5);
        is(d.soon(), 0);
        for (int primary = 0; primary < 5; primary++) {
            TentativeDesk other = bump(5, primary);
            make(other, 2, 0);
            int behind = 0;
            for (; behind < 60 && !isSettled(other); behind++) {
                is(other.meet(Due.giver(5, 0, behind), Due.taker(5, 0, behind)), 0);
            }
            d = bump(5, primary);
            make(d, 2, 0);
            soonIs(d, behind);
        }
    }

    /** Five copies, one write: all is settled behind so many meetings first. */
    private static void soonIs(int seed, int copy, int behind) {
        TentativeDesk d = Due.told(BUMP + "copies 5;seed " + seed + ";");
        make(d, copy, 0);
        soonIs(d, behind);
    }

    private static void soonIs(TentativeDesk d, int behind) {
        is(d.soon(), behind > 60 ? -2 : behind);
        is(d.year(60, 1), behind > 60 ? 0 : 1);
        is(d.year(59, 1), behind > 59 ? 0 : 1);
        for (int met = 1; met <= behind; met++) {
            is(isSettled(d), false);
            is(d.chance(1), met);
            int rest = behind - met;
            is(d.soon(), rest);
            is(d.count(6), met);
        }
        is(isSettled(d), true);
    }

    @Remark(promise = 39, terms = "III", says = "YEAR by s SEEDS (1 .. 20) from the text's SEED on, of n MEETINGS by CHANCE (0 .. 60):"
        + " in how many of them it is so behind these.")
    static void promise39Year() {
        for (int seed : new int[] {0, 100, 9990, 9999}) {
            int[] settled = new int[21];
            for (int s = 1; s <= 20; s++) {
                settled[s] = settled[s - 1] + (settledBehind(seed, seed + s - 1, 35) ? 1 : 0);
            }
            is(settled[20] > 0 && settled[20] < 20, true);
            TentativeDesk d = yearDesk(seed);
            for (int s = 1; s <= 20; s++) {
                is(d.year(35, s), settled[s]);
            }
            is(d.year(0, 20), 0);
            is(d.count(6), 3);
            is(d.count(9), 2);
        }
        TentativeDesk d = Due.told("");
        is(d.year(0, 1), 1);
        is(d.year(0, 20), 20);
        is(d.year(60, 20), 20);
    }

    private static TentativeDesk yearDesk(int seed) {
        TentativeDesk d = Due.told(BUMP + "copies 5;primary " + seed % 4 + ";seed " + seed + ";");
        is(d.chance(3), 3);
        make(d, 1, 0);
        return d;
    }

    private static boolean settledBehind(int textSeed, int seed, int n) {
        TentativeDesk d = yearDesk(textSeed);
        for (int m = 3; m < 3 + n; m++) {
            is(d.meet(Due.giver(5, seed, m), Due.taker(5, seed, m)) >= 0, true);
        }
        return isSettled(d);
    }

    @Remark(promise = 34, terms = "III", says = "Where NONE and -2 could both be told, it is NONE, if it is not told otherwise.")
    static void promise34NoneAheadOfMinus2() {
        TentativeDesk d = Scene.told();
        is(d.key(1, 2), NONE);
        is(d.key(1, -1), NONE);
        is(d.setter(1, 2), NONE);
        is(d.shut(8), NONE);
        is(d.shut(-1), NONE);
        is(d.make(0, 1, 0, 1), 0);
        is(d.outcome(0, 0), -2);
        is(d.outcome(0, 1), NONE);
        is(d.outcome(3, 0), NONE);
        is(d.ahead(0, 0, 0), NONE);
        is(d.ahead(0, 0, 1), NONE);
        is(d.write(0, 3), -2);
        is(d.write(1, 3), NONE);
        is(d.hangs(1, 0, 1), -2);
        is(d.hangs(1, 0, 2), NONE);
        is(d.promise(0, 8), true);
        is(d.make(0, 2, 0, 1), -2);
        is(d.make(0, 2, 4, 1), NONE);
        is(d.make(0, 2, -1, 1), NONE);
        is(d.clash(3), NONE);
    }

    // Promises 14 to 42.

    @Remark(promise = 14, says = "What a copy has in a CELL; FOR GOOD or not; 0: no such ones.")
    static void promise14Cell() {
        TentativeDesk d = bump(3, 0);
        make(d, 2, 0);
        is(d.cell(2, 0, false), 1);
        is(d.cell(2, 0, true), 0);
        make(d, 0, 1);
        is(d.cell(0, 0, true), 1);
        for (int bad : new int[] {-1, 1, 6, MIN, MAX}) {
            is(d.cell(0, bad, true), 0);
            is(d.cell(0, bad, false), 0);
        }
        for (int bad : new int[] {-1, 3, 5, MIN, MAX}) {
            is(d.cell(bad, 0, true), 0);
            is(d.cell(bad, 0, false), 0);
        }
        d = Due.told("copies 5;cell a 3;cell b 4;cell c 5;cell d 6;cell e 7;cell f 8;");
        is(d.cell(4, 5, false), 8);
        is(d.cell(4, 6, false), 0);
        is(d.cell(5, 5, false), 0);
        for (int times = 0; times < 2; times++) {
            Due.feed(d, "cell a 3;");
            is(d.read(), 0);
            is(d.cell(2, 0, false), 3);
            is(d.cell(2, 1, false), 0);
            is(d.cell(3, 0, false), 0);
        }
    }

    @Remark(promise = 15, says = "The i-th WRITE of a copy's LOG; NONE: no such ones.")
    static void promise15Log() {
        TentativeDesk d = bump(3, 0);
        is(d.log(0, 0), NONE);
        make(d, 2, 0);
        make(d, 1, 1);
        make(d, 1, 2);
        is(d.meet(2, 1), 1);
        is(d.log(1, 0), 1);
        is(d.log(1, 1), 0);
        is(d.log(1, 2), 2);
        for (int bad : new int[] {-1, 3, 60, MIN, MAX}) {
            is(d.log(1, bad), NONE);
            is(d.log(bad, 0), NONE);
        }
        is(d.log(0, 0), NONE);
        is(d.log(2, 1), NONE);
        for (int i = 3; i < 60; i++) {
            make(d, 1, i);
        }
        is(d.log(1, 59), 59);
        is(d.log(1, 60), NONE);
        is(d.log(1, 61), NONE);
    }

    @Remark(promise = 16, says = "How a WRITE comes out in a copy's LOG: 0 SET, 1 MERGED, 2 IDLE, 3 STUCK; -2: it has it not;"
        + " NONE: no such ones.")
    static void promise16Outcome() {
        TentativeDesk d = Due.told(HANG);
        is(d.outcome(0, 0), NONE);
        makeAll(d, 1, 5, 4, 2, 1, 3);
        int[] outcomes = {0, 0, 1, 2, 3};
        for (int write = 0; write < 5; write++) {
            is(d.outcome(1, write), outcomes[write]);
            is(d.outcome(0, write), -2);
            is(d.outcome(3, write), NONE);
            is(d.outcome(-1, write), NONE);
        }
        makeAll(d, 2, 0);
        is(d.outcome(1, 5), -2);
        is(d.outcome(2, 5), 0);
        for (int bad : new int[] {-1, 6, 59, 60, 64, MIN, MAX}) {
            is(d.outcome(1, bad), NONE);
        }
        is(d.meet(1, 2), 1);
        is(d.log(2, 1), 5);
        is(d.outcome(2, 3), 0);
        is(d.outcome(1, 3), 2);
        is(d.undo() && d.undo(), true);
        is(d.outcome(1, 5), NONE);
    }

    @Remark(promise = 17, says = "Of a WRITE: what 0 FORM, 1 ORIGIN, 2 STAMP, 3 its place in the ORDER (-2: none), 4 copies that have it,"
        + " 5 that KNOW it (bits).")
    static void promise17Write() {
        TentativeDesk d = Due.told(HANG + "copies 5;primary 4;");
        makeAll(d, 3, 5, 2);
        makeAll(d, 4, 4);
        writeIs(d, 0, 5, 3, 1, -2, 8, 0);
        writeIs(d, 1, 2, 3, 2, -2, 8, 0);
        writeIs(d, 2, 4, 4, 1, 0, 16, 16);
        is(d.meet(3, 4), 0);
        writeIs(d, 0, 5, 3, 1, 1, 24, 16);
        writeIs(d, 1, 2, 3, 2, 2, 24, 16);
        for (int copy = 0; copy < 4; copy++) {
            is(d.meet(4, copy) >= 0, true);
        }
        writeIs(d, 0, 5, 3, 1, 1, 31, 31);
        writeIs(d, 1, 2, 3, 2, 2, 31, 31);
        writeIs(d, 2, 4, 4, 1, 0, 31, 31);
        makeAll(d, 0, 0);
        writeIs(d, 3, 0, 0, 3, -2, 1, 0);
        is(d.meet(0, 1), 0);
        is(d.meet(1, 4), 0);
        writeIs(d, 3, 0, 0, 3, 3, 19, 16);
        makeAll(d, 0, 0, 0);
        makeAll(d, 2, 0);
        is(d.meet(2, 0), 2);
        is(d.meet(0, 4), 0);
        is(d.copy(0, 3), 2);
        writeIs(d, 0, 5, 3, 1, 1, 31, 31);
        writeIs(d, 4, 0, 0, 4, 5, 17, 16);
    }

    private static void writeIs(TentativeDesk d, int write, int... due) {
        for (int what = 0; what < 6; what++) {
            is(d.write(write, what), due[what]);
        }
    }

    @Remark(promise = 17, says = "NONE for others.")
    static void promise17NoneForOthers() {
        TentativeDesk d = bump(3, 0);
        for (int what = 0; what < 6; what++) {
            is(d.write(0, what), NONE);
        }
        make(d, 0, 0);
        for (int bad : new int[] {-1, 6, 7, MIN, MAX}) {
            is(d.write(0, bad), NONE);
            is(d.write(bad, 0), NONE);
        }
        is(d.write(1, 0), NONE);
        is(d.write(1, 3), NONE);
        is(d.undo(), true);
        is(d.write(0, 0), NONE);
    }

    @Remark(promise = 18, says = "x of a WRITE; 0: no such one.")
    static void promise18With() {
        TentativeDesk d = bump(3, 0);
        is(d.with(0), 0);
        is(d.make(NONE, 0, 0, MIN), 0);
        is(d.make(NONE, 1, 0, MAX), 1);
        is(d.with(0), MIN);
        is(d.with(1), MAX);
        for (int bad : new int[] {-1, 2, 60, MIN, MAX}) {
            is(d.with(bad), 0);
        }
        is(d.undo(), true);
        is(d.with(1), 0);
    }

    @Remark(promise = 19, says = "NONE for others.")
    static void promise19NoneForOthers() {
        TentativeDesk d = bump(4, 0);
        for (int copy = 0; copy < 4; copy++) {
            for (int bad : new int[] {-1, 9, 10, MIN, MAX}) {
                is(d.copy(copy, bad), NONE);
            }
        }
        for (int bad : new int[] {-1, 4, 5, MIN, MAX}) {
            for (int what = -1; what < 10; what++) {
                is(d.copy(bad, what), NONE);
            }
        }
        is(d.copy(3, 0), 0);
        is(d.copy(3, 8), 0);
    }

    @Remark(promise = 19, says = "Of a copy: what 0 CLOCK, 1 how many WRITES, 2 KNOWS, 3 ROLLED, 4 DONE AGAIN, 5 how often OPEN, 6 how often"
        + " shut, 7 MERGED ones of its LOG, 8 IDLE and STUCK ones.")
    static void promise19Copy() {
        TentativeDesk d = Due.told(HANG + "copies 4;");
        copyIs(d, 3, 0, 0, 0, 0, 0, 0, 0, 0, 0);
        makeAll(d, 3, 2, 1, 3, 2);
        copyIs(d, 3, 4, 4, 0, 0, 0, 4, 4, 2, 2);
        makeAll(d, 0, 5);
        is(d.meet(0, 3), 4);
        copyIs(d, 3, 4, 5, 1, 4, 5, 5, 5, 2, 2);
        copyIs(d, 0, 1, 1, 1, 0, 0, 2, 2, 0, 0);
        makeAll(d, 2, 0);
        is(d.meet(2, 3), 4);
        copyIs(d, 3, 4, 6, 1, 8, 10, 6, 6, 0, 0);
        makeAll(d, 1, 2, 1, 3);
        is(d.copy(3, 7), 0);
        is(d.copy(1, 7), 1);
        is(d.copy(3, 8), 0);
        is(d.copy(1, 8), 2);
    }

    private static void copyIs(TentativeDesk d, int copy, int... due) {
        for (int what = 0; what < 9; what++) {
            is(d.copy(copy, what), due[what]);
        }
    }

    @Remark(promise = 20, says = "VECTOR of a copy; NONE: no such ones.")
    static void promise20VectorOfNoSuchOnes() {
        TentativeDesk d = bump(5, 0);
        make(d, 4, 0);
        is(d.vector(4, 4), 1);
        is(d.vector(4, 0), 0);
        is(d.vector(0, 4), 0);
        for (int bad : new int[] {-1, 5, 6, MIN, MAX}) {
            is(d.vector(bad, 0), NONE);
            is(d.vector(0, bad), NONE);
            is(d.vector(bad, bad), NONE);
        }
        d = bump(1, 0);
        is(d.vector(0, 0), 0);
        is(d.vector(0, 1), NONE);
        is(d.vector(1, 0), NONE);
    }

    @Remark(promise = 21, says = "NONE for others.")
    static void promise21NoneForOthers() {
        TentativeDesk d = bump(3, 0);
        for (int session = 0; session < 4; session++) {
            for (int bad : new int[] {-1, 2, 3, MIN, MAX}) {
                is(d.session(session, bad), NONE);
            }
        }
        for (int bad : new int[] {-1, 4, 5, MIN, MAX}) {
            is(d.session(bad, 0), NONE);
            is(d.session(bad, 1), NONE);
            is(d.session(bad, 2), NONE);
        }
        is(d.session(3, 1), 0);
    }

    @Remark(promise = 21, says = "Of a SESSION: what 0 PROMISES, 1 how many were REFUSED.")
    static void promise21Session() {
        TentativeDesk d = bump(3, 0);
        is(d.make(3, 1, 0, 0), 0);
        is(d.promise(3, 9), true);
        is(d.make(3, 0, 0, 0), -2);
        is(d.ask(3, 0, 0), 0);
        is(d.session(3, 0), 9);
        is(d.session(3, 1), 2);
        is(d.session(0, 0), 0);
        is(d.session(0, 1), 0);
        is(d.undo(), true);
        is(d.session(3, 1), 1);
        is(d.promise(3, 15), true);
        is(d.session(3, 0), 15);
        is(d.session(3, 1), 1);
    }

    @Remark(promise = 22, says = "Of a SESSION: SEEN (own false), OWN (true) of an ORIGIN; NONE: no such ones.")
    static void promise22Of() {
        TentativeDesk d = bump(4, 0);
        make(d, 3, 0);
        is(d.make(3, 3, 0, 0), 1);
        is(d.of(3, 3, true), 2);
        is(d.of(3, 3, false), 0);
        make(d, 3, 2);
        is(d.ask(3, 3, 0), 1);
        is(d.of(3, 3, false), 3);
        is(d.of(3, 3, true), 2);
        is(d.of(0, 0, false), 0);
        for (int bad : new int[] {-1, 4, 5, MIN, MAX}) {
            is(d.of(bad, 0, true), NONE);
            is(d.of(bad, 0, false), NONE);
            is(d.of(0, bad, true), NONE);
            is(d.of(0, bad, false), NONE);
        }
    }

    @Remark(promise = 23, says = "The copy shut latest but i (0 .. 7); -2: not so many; NONE: no such i.")
    static void promise23Shut0To7() {
        TentativeDesk d = bump(5, 0);
        int[] copies = {3, 1, 4, 1, 0, 2, 2, 3, 4, 0};
        for (int n = 0; n <= copies.length; n++) {
            for (int i = 0; i < 8; i++) {
                is(d.shut(i), i < n ? copies[n - 1 - i] : -2);
            }
            for (int bad : new int[] {-1, 8, 9, MIN, MAX}) {
                is(d.shut(bad), NONE);
            }
            if (n < copies.length) {
                is(d.ask(0, copies[n], 0), 1);
            }
        }
        for (int n = copies.length; n > 2; n--) {
            is(d.undo(), true);
            is(d.shut(0), copies[n - 2]);
        }
        is(d.shut(1), 3);
        is(d.shut(2), -2);
    }

    @Remark(promise = 24, says = "LACKS; NONE: no such copies.")
    static void promise24Lacks() {
        TentativeDesk d = bump(4, 0);
        make(d, 3, 0);
        is(d.lacks(3, 0), 1);
        is(d.lacks(0, 3), 0);
        is(d.lacks(3, 3), 0);
        for (int bad : new int[] {-1, 4, 5, MIN, MAX}) {
            is(d.lacks(bad, 0), NONE);
            is(d.lacks(0, bad), NONE);
            is(d.lacks(bad, bad), NONE);
        }
    }

    @Remark(promise = 25, says = "WOULD; NONE: one and the same, no such copies.")
    static void promise25WouldOfOneAndTheSame() {
        TentativeDesk d = bump(4, 0);
        make(d, 3, 0);
        make(d, 2, 1);
        is(d.would(2, 3), 1);
        is(d.would(3, 2), 0);
        for (int copy = 0; copy < 4; copy++) {
            is(d.would(copy, copy), NONE);
        }
        for (int bad : new int[] {-1, 4, 5, MIN, MAX}) {
            is(d.would(bad, 0), NONE);
            is(d.would(0, bad), NONE);
            is(d.would(bad, bad), NONE);
        }
    }

    @Remark(promise = 26, says = "DIFFER (bits); NONE: no such copies.")
    static void promise26Differ() {
        TentativeDesk d = bump(4, 0);
        make(d, 3, 0);
        is(d.differ(3, 0), 1);
        is(d.differ(3, 3), 0);
        for (int bad : new int[] {-1, 4, 5, MIN, MAX}) {
            is(d.differ(bad, 0), NONE);
            is(d.differ(0, bad), NONE);
            is(d.differ(bad, bad), NONE);
        }
    }

    @Remark(promise = 27, says = "ALIKE: 1, 0; NONE: no such copies.")
    static void promise27AlikeOfNoSuchCopies() {
        TentativeDesk d = bump(4, 0);
        make(d, 3, 0);
        is(d.alike(3, 0), 0);
        is(d.alike(3, 3), 1);
        is(d.alike(0, 1), 1);
        for (int bad : new int[] {-1, 4, 5, MIN, MAX}) {
            is(d.alike(bad, 0), NONE);
            is(d.alike(0, bad), NONE);
            is(d.alike(bad, bad), NONE);
        }
    }

    @Remark(promise = 28, says = "HANGS: what 0 how many, 1 the first (-2: none); -3: the copy has it not; NONE: no such ones.")
    static void promise28HangsOfNoSuchOnes() {
        TentativeDesk d = Due.told(HANG + "copies 4;");
        is(d.hangs(3, 0, 0), NONE);
        makeAll(d, 3, 0, 4, 1);
        hang(d, 3, 0, 1, 2);
        hang(d, 3, 1, 0, -2);
        hang(d, 3, 2, 0, -2);
        makeAll(d, 2, 0);
        for (int copy = 0; copy < 3; copy++) {
            is(d.hangs(copy, 0, 0), -3);
            is(d.hangs(copy, 2, 1), -3);
        }
        is(d.hangs(3, 3, 0), -3);
        is(d.hangs(3, 3, 1), -3);
        for (int bad : new int[] {-1, 4, 5, 60, 64, MIN, MAX}) {
            is(d.hangs(bad, 0, 0), NONE);
            is(d.hangs(3, bad, 0), NONE);
            is(d.hangs(3, 0, bad), NONE);
        }
        is(d.hangs(3, 0, 2), NONE);
    }

    @Remark(promise = 29, says = "What a CELL is at a copy behind the first i WRITES of its LOG (all, if there are not so many);"
        + " 0: no such ones (i below 0).")
    static void promise29Behind() {
        TentativeDesk d = Due.told("copies 4;cell a 9;cell b 5;form f needs 0<1 sets a a+x;");
        for (int i : new int[] {0, 1, 60, MAX}) {
            is(d.behind(3, 0, i), 9);
        }
        is(d.make(NONE, 3, 0, 1), 0);
        is(d.make(NONE, 3, 0, 10), 1);
        is(d.make(NONE, 2, 0, 100), 2);
        is(d.meet(2, 3), 2);
        int[] behind = {9, 109, 110, 120, 120, 120};
        for (int i = 0; i < behind.length; i++) {
            is(d.behind(3, 0, i), behind[i]);
            is(d.behind(3, 1, i), 5);
        }
        for (int i : new int[] {60, 61, 1 << 30, MAX}) {
            is(d.behind(3, 0, i), 120);
        }
        is(d.behind(3, 0, -1), 0);
        is(d.behind(3, 0, MIN), 0);
        for (int bad : new int[] {-1, 4, 6, MIN, MAX}) {
            is(d.behind(bad, 0, 1), 0);
            is(d.behind(3, bad, 1), 0);
        }
        is(d.behind(3, 2, 1), 0);
    }

    @Remark(promise = 30, says = "FORK; NONE: no such copies.")
    static void promise30Fork() {
        TentativeDesk d = bump(4, 0);
        make(d, 3, 0);
        is(d.fork(3, 3), 1);
        is(d.fork(3, 0), 0);
        for (int bad : new int[] {-1, 4, 5, MIN, MAX}) {
            is(d.fork(bad, 0), NONE);
            is(d.fork(0, bad), NONE);
            is(d.fork(bad, bad), NONE);
        }
    }

    @Remark(promise = 31, says = "KEY: what 0 which WRITE, 1 how many; -2: none; NONE: no such ones.")
    static void promise31KeyOfNone() {
        TentativeDesk d = Due.told(HANG + "copies 4;");
        is(d.key(3, 0), -2);
        is(d.key(3, 1), -2);
        makeAll(d, 3, 4, 0);
        is(d.key(3, 0), -2);
        is(d.key(3, 1), -2);
        makeAll(d, 3, 2);
        is(d.key(3, 0), 1);
        is(d.key(3, 1), 1);
        makeAll(d, 3, 2);
        is(d.key(3, 0), 1);
        is(d.key(3, 1), 2);
        is(d.key(0, 0), -2);
        for (int bad : new int[] {-1, 4, 5, MIN, MAX}) {
            is(d.key(bad, 0), NONE);
            is(d.key(3, bad), NONE);
            is(d.key(0, bad), NONE);
        }
        is(d.key(3, 2), NONE);
    }

    @Remark(promise = 32, says = "SHARE; NONE: no such copy.")
    static void promise32Share() {
        TentativeDesk d = bump(4, 0);
        is(d.share(3), 0);
        is(d.share(4), NONE);
        make(d, 3, 0);
        is(d.share(3), 1000);
        is(d.share(0), 0);
        for (int bad : new int[] {-1, 4, 5, MIN, MAX}) {
            is(d.share(bad), NONE);
        }
    }

    @Remark(promise = 33, says = "SETTER; -2: none; NONE: no such ones.")
    static void promise33SetterOfNone() {
        TentativeDesk d = Due.told(HANG + "copies 4;");
        is(d.setter(3, 0), -2);
        is(d.setter(3, 1), -2);
        makeAll(d, 3, 1, 3);
        is(d.setter(3, 1), -2);
        makeAll(d, 3, 0);
        is(d.setter(3, 0), 2);
        is(d.setter(3, 1), -2);
        for (int bad : new int[] {-1, 4, 6, MIN, MAX}) {
            is(d.setter(bad, 0), NONE);
            is(d.setter(3, bad), NONE);
        }
        is(d.setter(3, 2), NONE);
    }

    @Remark(promise = 34, says = "Whether a WRITE is ahead of another one in a copy's LOG: 1, 0; -2: it has not both;"
        + " NONE: no such ones, one and the same.")
    static void promise34Ahead() {
        TentativeDesk d = bump(4, 0);
        is(d.ahead(3, 0, 1), NONE);
        make(d, 3, 0);
        make(d, 2, 1);
        make(d, 3, 2);
        is(d.ahead(3, 0, 2), 1);
        is(d.ahead(3, 2, 0), 0);
        is(d.ahead(3, 0, 1), -2);
        is(d.ahead(3, 1, 0), -2);
        is(d.ahead(1, 1, 0), -2);
        is(d.meet(2, 3), 2);
        is(d.ahead(3, 0, 1), 0);
        is(d.ahead(3, 1, 0), 1);
        is(d.ahead(3, 1, 2), 1);
        for (int write = 0; write < 3; write++) {
            is(d.ahead(3, write, write), NONE);
            is(d.ahead(0, write, write), NONE);
        }
        for (int bad : new int[] {-1, 4, 5, 60, 64, MIN, MAX}) {
            is(d.ahead(bad, 0, 1), NONE);
            is(d.ahead(3, bad, 1), NONE);
            is(d.ahead(3, 1, bad), NONE);
        }
        is(d.ahead(3, 1, 3), NONE);
        is(d.ahead(3, 3, 1), NONE);
    }

    @Remark(promise = 35, says = "MAY: copies (bits), of an ask (make false), of a make (true); NONE: no such SESSION.")
    static void promise35MayOfNoSuchSession() {
        for (int copies = 1; copies <= 5; copies++) {
            TentativeDesk d = bump(copies, 0);
            for (int session = 0; session < 4; session++) {
                is(d.may(session, false), (1 << copies) - 1);
                is(d.may(session, true), (1 << copies) - 1);
            }
            is(d.make(3, copies - 1, 0, 0), 0);
            is(d.promise(3, 1), true);
            is(d.may(3, false), 1 << copies - 1);
            is(d.may(3, true), (1 << copies) - 1);
            is(d.promise(3, 8), true);
            is(d.may(3, false), (1 << copies) - 1);
            is(d.may(3, true), 1 << copies - 1);
            for (int bad : new int[] {-1, 4, 5, MIN, MAX}) {
                is(d.may(bad, false), NONE);
                is(d.may(bad, true), NONE);
            }
        }
    }

    @Remark(promise = 36, says = "NONE for others.")
    static void promise36NoneForOthers() {
        TentativeDesk d = bump(3, 0);
        for (int times = 0; times < 2; times++) {
            for (int bad : new int[] {-1, 3, 4, MIN, MAX}) {
                is(d.plan(bad), NONE);
            }
            is(d.plan(0), 3 * times);
            make(d, 2, times);
        }
    }

    @Remark(promise = 36, says = "PLAN: what 0 how many MEETINGS in all, 1 the copies that meet the PRIMARY (bits), 2 the copies that it meets then"
        + " (bits).")
    static void promise36PlanOfNone() {
        TentativeDesk d = bump(3, 0);
        for (int what = 0; what < 3; what++) {
            is(d.plan(what), 0);
        }
        make(d, 2, 0);
        is(d.plan(0), 3);
        is(d.plan(1), 4);
        is(d.plan(2), 6);
        is(d.lead(2), true);
        is(d.plan(0), 2);
        is(d.plan(1), 0);
        is(d.plan(2), 3);
        is(d.meet(2, 0), 0);
        is(d.plan(2), 2);
        is(d.count(12), 4);
    }

    @Remark(promise = 37, says = "CLASH; -2: none; NONE: no such copy.")
    static void promise37Clash() {
        TentativeDesk d = Due.told(HANG + "copies 4;");
        is(d.clash(3), -2);
        makeAll(d, 3, 0, 1);
        is(d.clash(3), -2);
        makeAll(d, 2, 1);
        is(d.clash(2), 2);
        is(d.clash(0), -2);
        for (int bad : new int[] {-1, 4, 5, MIN, MAX}) {
            is(d.clash(bad), NONE);
        }
    }

    @Remark(promise = 38, says = "SOON; -2: not.")
    static void promise38SoonOrNot() {
        TentativeDesk d = Due.told(BUMP + "copies 5;seed 36;");
        is(d.soon(), 0);
        make(d, 2, 0);
        is(d.soon(), 60);
        is(d.undo(), true);
        is(d.soon(), 0);
        make(d, 3, 0);
        is(d.soon(), 59);
        d = Due.told(BUMP + "copies 5;seed 18;");
        make(d, 1, 0);
        is(d.soon(), -2);
        is(d.chance(1), 1);
        is(d.soon(), 60);
        is(bump(1, 0).soon(), 0);
    }

    @Remark(promise = 39, says = "YEAR; NONE: no such ones.")
    static void promise39YearOfNoSuchOnes() {
        TentativeDesk d = bump(2, 0);
        is(d.year(0, 1), 1);
        is(d.year(60, 20), 20);
        make(d, 1, 0);
        is(d.year(0, 20), 0);
        is(d.year(60, 20), 20);
        is(d.year(60, 1), 1);
        for (int bad : new int[] {-1, 61, 62, MIN, MAX}) {
            is(d.year(bad, 1), NONE);
        }
        for (int bad : new int[] {-1, 0, 21, 22, MIN, MAX}) {
            is(d.year(1, bad), NONE);
        }
    }

    @Remark(promise = 40, says = "All that goes on (not the tape) is held in a SLOT (0 .. 2): true;")
    static void promise40Hold() {
        for (int slot = 0; slot <= 2; slot++) {
            TentativeDesk held = new TentativeDesk();
            TentativeDesk plain = new TentativeDesk();
            Scene.busy(held);
            Scene.busy(plain);
            is(held.hold(slot), true);
            is(plain.hold(slot), true);
            Due.feed(held, "copies 2;");
            is(held.meet(0, 1) >= 0, true);
            is(held.lead(1), true);
            is(held.make(2, 1, 1, 4), 4);
            is(held.make(0, 0, 0, 4), -2);
            is(held.ask(3, 1, 1), 1);
            is(held.promise(3, 4), true);
            is(held.chance(7), 9);
            is(held.count(9) > 0, true);
            is(held.restore(slot), true);
            is(held.count(8), 9);
            is(held.back(9), 0);
            is(plain.restore(slot), true);
            Look.same(held, plain);
        }
    }

    @Remark(promise = 40, says = "false: no such one.")
    static void promise40NoSuchSlot() {
        Look.unchanged(Scene::busy, d -> {
            for (int bad : new int[] {-1, 3, 4, MIN, MAX}) {
                is(d.hold(bad), false);
            }
        });
        TentativeDesk d = Scene.told();
        is(d.hold(3), false);
        is(d.hold(-1), false);
        is(d.count(11), 0);
    }

    @Remark(promise = 41, says = "It goes on from what a SLOT holds (that stays there; nothing can be undone then): true;")
    static void promise41Restore() {
        TentativeDesk d = bump(3, 0);
        is(d.hold(2), true);
        make(d, 1, 0);
        is(d.hold(0), true);
        make(d, 2, 1);
        is(d.hold(1), true);
        make(d, 2, 2);
        int[] writes = {1, 2, 0};
        for (int times = 0; times < 3; times++) {
            for (int slot = 0; slot < 3; slot++) {
                is(d.restore(slot), true);
                is(d.count(3), writes[slot]);
                is(d.count(9), 0);
                is(d.undo(), false);
                make(d, 0, writes[slot]);
                is(d.count(9), 1);
                is(d.count(11), 3);
            }
        }
        is(d.restore(1), true);
        is(d.write(1, 1), 2);
        is(d.hold(0), true);
        is(d.restore(2), true);
        is(d.restore(0), true);
        is(d.count(3), 2);
        make(d, 1, 2);
        is(d.undo(), true);
        is(d.undo(), false);
        is(d.count(3), 2);
        TentativeDesk held = Scene.told();
        TentativeDesk plain = Scene.told();
        for (TentativeDesk one : new TentativeDesk[] {held, plain}) {
            is(one.make(NONE, 1, 0, 3), 0);
            is(one.make(NONE, 1, 1, 4), 1);
            is(one.make(NONE, 0, 2, 5), 2);
            is(one.meet(1, 0), 0);
            is(one.hold(1), true);
        }
        is(held.undo() && held.undo() && held.undo() && held.undo(), true);
        is(held.make(NONE, 0, 3, 6), 0);
        is(held.make(NONE, 0, 3, 7), 1);
        is(held.make(NONE, 0, 0, 8), 2);
        is(held.restore(1), true);
        is(plain.restore(1), true);
        Look.same(held, plain);
        is(held.with(2), 5);
        is(held.write(1, 3), 2);
    }

    @Remark(promise = 41, says = "false, and nothing happens: no such one, nothing is held.")
    static void promise41NothingIsHeld() {
        Look.unchanged(Scene::busy, d -> {
            for (int bad : new int[] {-1, 0, 2, 3, MIN, MAX}) {
                is(d.restore(bad), false);
            }
        });
        TentativeDesk d = new TentativeDesk();
        for (int slot = -1; slot <= 3; slot++) {
            is(d.restore(slot), false);
        }
        is(d.hold(2), true);
        is(d.restore(1), false);
        is(d.restore(2), true);
    }

    @Remark(promise = 42, says = {"0 copies, 1 CELLS, 2 FORMS, 3 WRITES, 4 how many are in the ORDER, 5 the PRIMARY, 6 MEETINGS by CHANCE so far, 7 ROLLED of"
        + " all, 8 bytes on the tape, 9 things that can be undone,", "10: 1 all copies are ALIKE, else 0, 11 SLOTS that hold something, 12 how"
        + " often any was OPEN, 13 how often any was shut, 14 how many of the ORDER all copies KNOW, 15 WRITES that all copies have,",
        "16 how many asks and makes were REFUSED, 17 MERGED ones of the PRIMARY's LOG, 18 IDLE and STUCK ones of it."})
    static void promise42Count() {
        countIs(new TentativeDesk(), 3, 0, 0, 0, 0, 0, 0, 0, 0, 0, 1, 0, 0, 0, 0, 0, 0, 0, 0);
        TentativeDesk d = Due.told(HANG + "copies 2;primary 1;");
        countIs(d, 2, 2, 6, 0, 0, 1, 0, 0, 0, 0, 1, 0, 0, 0, 0, 0, 0, 0, 0);
        makeAll(d, 1, 2, 1, 3, 2);
        makeAll(d, 0, 5, 1);
        countIs(d, 2, 2, 6, 6, 4, 1, 0, 0, 0, 6, 0, 0, 6, 6, 0, 0, 0, 2, 2);
        is(d.promise(3, 1) && d.promise(2, 8), true);
        is(d.make(3, 1, 4, 0), 6);
        is(d.make(2, 1, 4, 0), 7);
        is(d.ask(3, 0, 0), 0);
        is(d.make(2, 0, 0, 0), -2);
        is(d.hold(0) && d.hold(2), true);
        Due.feed(d, "seed");
        countIs(d, 2, 2, 6, 8, 6, 1, 0, 0, 4, 12, 0, 2, 10, 10, 0, 0, 2, 2, 2);
        is(d.meet(1, 0), 2);
        countIs(d, 2, 2, 6, 8, 6, 1, 0, 2, 4, 13, 0, 2, 12, 12, 6, 6, 2, 2, 2);
        is(d.meet(0, 1), 0);
        countIs(d, 2, 2, 6, 8, 8, 1, 0, 2, 4, 14, 0, 2, 14, 14, 6, 8, 2, 2, 3);
        is(d.meet(1, 0), 0);
        is(d.chance(2), 2);
        countIs(d, 2, 2, 6, 8, 8, 1, 2, 2, 4, 16, 1, 2, 20, 20, 8, 8, 2, 2, 3);
        is(d.lead(0), true);
        is(d.count(5), 0);
        is(d.count(12), 21);
        is(bump(1, 0).count(10), 1);
        d = bump(3, 0);
        make(d, 0, 0);
        make(d, 0, 1);
        is(d.count(14), 0);
        is(d.meet(0, 1), 0);
        is(d.count(14), 0);
        make(d, 0, 2);
        is(d.meet(0, 2), 0);
        is(d.count(14), 2);
        is(d.count(15), 2);
        is(d.meet(0, 1), 0);
        is(d.count(14), 3);
        make(d, 1, 3);
        is(d.count(17) + d.count(18), 0);
        for (int session = 0; session < 4; session++) {
            is(d.make(session, 2, 0, 0), 4 + session);
            is(d.promise(session, 1), true);
            is(d.ask(session, 0, 0), 0);
            is(d.count(16), session + 1);
        }
    }

    private static void countIs(TentativeDesk d, int... due) {
        for (int what = 0; what < 19; what++) {
            is(d.count(what), due[what]);
        }
    }

    @Remark(promise = 42, says = "NONE for others.")
    static void promise42NoneForOthers() {
        TentativeDesk d = new TentativeDesk();
        for (int bad : new int[] {-1, 19, 20, MIN, MAX}) {
            is(d.count(bad), NONE);
        }
        Scene.busy(d);
        for (int bad : new int[] {-1, 19, 20, MIN, MAX}) {
            is(d.count(bad), NONE);
        }
    }

    // Ahead of the terms.

    @Remark(promise = 12, terms = "UP", says = "An object is used for at most 512 calls after it has been made;")
    static void promise12For512Calls() {
        TentativeDesk d = new TentativeDesk();
        for (int i = 1; i <= 511; i++) {
            is(d.chance(60), 60 * i);
        }
        is(d.count(12), 2 * 60 * 511);
        d = bump(5, 0);
        for (int i = 0; i < 60; i++) {
            make(d, i % 5, i);
        }
        for (int i = 0; i < 420; i++) {
            is(d.meet(i % 5, (i + 1 + i / 5 % 4) % 5) >= 0, true);
        }
        is(isSettled(d), true);
        is(d.cell(4, 0, true), 60);
        is(d.count(9), 40);
        is(d.plan(0), 0);
    }
}
