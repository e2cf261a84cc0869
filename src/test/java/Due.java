/** Counts answers that are not due, and feeds texts. */
final class Due {
    private static int wrong;
    private static int asked;
    private static String about = "";

    private Due() {
    }

    static void about(String what) {
        about = what;
    }

    static void same(String call, long got, long want) {
        asked++;
        if (got != want) {
            wrong++;
            if (wrong <= 50) {
                String told = call.length() > 300 ? call.substring(0, 300) + " .." : call;
                System.out.println(about + ": " + told + " answered " + got + ", due is " + want);
            }
        }
    }

    static void same(String call, boolean got, boolean want) {
        same(call, got ? 1 : 0, want ? 1 : 0);
    }

    /** A due answer without a name: the line of the test tells which it is. */
    static void is(long got, long want) {
        if (got == want) {
            asked++;
        } else {
            same("line " + line(), got, want);
        }
    }

    static void is(boolean got, boolean want) {
        is(got ? 1 : 0, want ? 1 : 0);
    }

    private static int line() {
        return StackWalker.getInstance().walk(frames -> frames
            .filter(f -> f.getClassName().endsWith("Test") && !f.getMethodName().equals("is")).findFirst().map(f -> f.getLineNumber()).orElse(0));
    }

    static int wrong() {
        return wrong;
    }

    static int asked() {
        return asked;
    }

    static void end() {
        System.out.println(wrong == 0 ? asked + " answers are as due" : wrong + " answers are not as due");
        if (wrong != 0) {
            System.exit(1);
        }
    }

    /** Five ints for each twenty bytes of a text, the last ones filled up with blanks. */
    static int[] ints(String text) {
        int[] ints = new int[(text.length() + 19) / 20 * 5];
        for (int i = 0; i < ints.length * 4; i++) {
            int b = i < text.length() ? text.charAt(i) & 255 : ' ';
            ints[i / 4] = ints[i / 4] << 8 | b;
        }
        return ints;
    }

    static int rest(String text) {
        return (20 - text.length() % 20) % 20;
    }

    static void feed(TentativeDesk desk, String text) {
        int[] f = ints(text);
        for (int i = 0; i < f.length; i += 5) {
            desk.feed(f[i], f[i + 1], f[i + 2], f[i + 3], f[i + 4]);
        }
        desk.back(rest(text));
    }

    static TentativeDesk told(String text) {
        TentativeDesk desk = new TentativeDesk();
        feed(desk, text);
        same("read() of " + text, desk.read(), 0);
        return desk;
    }


    /** LOT by the document's words, in longs. */
    static int lot(int n, int seed, int which) {
        long h = seed;
        for (int it : new int[] {223, which}) {
            h = ((h ^ it) * 1103515245L + 12345L) & 0xffffffffL;
            h = h ^ h / 32768;
        }
        return (int) (h / 2 % n);
    }

    static int giver(int copies, int seed, int m) {
        return lot(copies, seed, 2 * m);
    }

    static int taker(int copies, int seed, int m) {
        return (giver(copies, seed, m) + 1 + lot(copies - 1, seed, 2 * m + 1)) % copies;
    }

    static void fault(String text, int why, int at) {
        TentativeDesk desk = new TentativeDesk();
        feed(desk, text);
        same("read() of " + text, desk.read(), why);
        same("place() of " + text, desk.place(), at);
    }
}
