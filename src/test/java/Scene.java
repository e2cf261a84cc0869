/** Desks on which something goes on, for tests of what a call leaves as it was. */
final class Scene {
    /** Forms: 0 add, 1 swap, 2 part, 3 never (IDLE always). */
    static final String TEXT = "copies 3;primary 0;seed 12;cell a 1;cell b 2;"
        + "form add needs a<10 sets a a+x;"
        + "form swap needs a=x sets b stamp else b 0-origin;"
        + "form part needs 1/x<5 sets a 9/origin;"
        + "form never needs 1<0 sets a 5;";

    private static final int NONE = TentativeDesk.NONE;

    private Scene() {
    }

    static TentativeDesk told() {
        return Due.told(TEXT);
    }

    /** Copies of a text's tail behind that of a scene: as many copies, and this primary. */
    static TentativeDesk told(int copies, int primary) {
        return Due.told(TEXT + "copies " + copies + ";primary " + primary + ";");
    }

    /** Copy 1 has writes 0 and 3, copy 2 all but 2, the primary just 2; session 0 may ask and make at 1 and 2 alone. */
    static void busy(TentativeDesk d) {
        Due.feed(d, TEXT);
        Due.is(d.read(), 0);
        Due.is(d.chance(2), 2);
        Due.is(d.promise(0, 15), true);
        Due.is(d.make(0, 1, 0, 3), 0);
        Due.is(d.make(NONE, 2, 1, 8), 1);
        Due.is(d.make(NONE, 0, 3, 5), 2);
        Due.is(d.ask(0, 1, 0), 1);
        Due.is(d.ask(0, 0, 0), 0);
        Due.is(d.make(1, 1, 2, 0), 3);
        Due.is(d.hold(1), true);
        Due.is(d.meet(1, 2), 1);
    }

    static void tapeFull(TentativeDesk d) {
        busy(d);
        Due.feed(d, " ".repeat(1990));
    }
}
