/** Runs of up to 512 calls, the same on the class and on the model; every answer must be alike. */
public final class ModelTest {
    private static final int RUNS = 1500;
    /** Behind so many calls, what is left of the 512 is for the last thing done and all that is asked then. */
    private static final int CALLS = 320;
    private static long luck;

    private TentativeDesk desk;
    private Model model;
    private final StringBuilder told = new StringBuilder();
    private int calls;

    private ModelTest() {
    }

    private static int luck(int n) {
        luck = luck * 6364136223846793005L + 1442695040888963407L;
        return (int) ((luck >>> 33) % n);
    }

    private static String pick(String... of) {
        return of[luck(of.length)];
    }

    public static void main(String[] args) {
        int runs = args.length > 0 ? Integer.parseInt(args[0]) : RUNS;
        for (int run = 0; run < runs && Due.wrong() == 0; run++) {
            luck = 77 + run * 1000003L;
            Due.about("run " + run);
            ModelTest test = new ModelTest();
            test.run(run);
            if (Due.wrong() != 0) {
                System.out.println("run " + run + " in full:\n" + test.told);
            }
        }
        for (int i = 0; i < runs * 20 && Due.wrong() == 0; i++) {
            luck = 99 + i * 7919L;
            Due.about("text " + i);
            new ModelTest().readBroken();
        }
        Due.end();
    }

    private void readBroken() {
        desk = new TentativeDesk();
        model = new Model();
        StringBuilder text = new StringBuilder(text(1 + luck(7)));
        int changes = luck(3);
        for (int i = 0; i < changes && text.length() > 0; i++) {
            int at = luck(text.length());
            String by = pick("", " ", ";", "cell", "form", "x", "0", "12345", "abcdefghi", "((", ")", "<", "=", "!", "A",
                "else", "seed 7;", "copies 0;", "copies 2;", "primary 5;", "primary 3;", "cell a 1;", "\t", "\u00e9",
                "\u0000", "+", "/", "9", "copies", "needs");
            text.replace(at, Math.min(text.length(), at + luck(4)), by);
        }
        if (luck(10) == 0) {
            while (text.length() < 1500) {
                text.append("seed 1;");
                if (luck(60) == 0) {
                    text.append(pick("cell", "form f needs x<1", ";", "primary 4;", "?", "copies 6;"));
                }
            }
        }
        if (luck(4) == 0) {
            text.setLength(luck(text.length() + 1));
        }
        feedBoth(text.toString());
        same("read() of " + text, model.read(), desk.read());
        same("place() of " + text, model.place(), desk.place());
    }

    private void same(String call, int want, int got) {
        calls++;
        told.append(call).append(" = ").append(want).append('\n');
        Due.same(call, got, want);
    }

    private void same(String call, boolean want, boolean got) {
        same(call, want ? 1 : 0, got ? 1 : 0);
    }

    private void run(int number) {
        desk = new TentativeDesk();
        model = new Model();
        if (number % 50 != 0) {
            readText();
        }
        int kind = luck(4);
        boolean asksMuch = luck(3) == 0;
        while (calls < CALLS && Due.wrong() == 0) {
            doOne(kind);
            for (int questions = luck(3); questions > 0; questions--) {
                askOne();
            }
            if (asksMuch && calls < CALLS / 2 && luck(20) == 0) {
                askMuch();
            }
        }
        askMuch();
        Due.same("calls of one object are 512 at most: " + calls, calls <= 512, true);
    }

    private void readText() {
        String text = text(6);
        feedBoth(text);
        same("read() of " + text, model.read(), desk.read());
        same("place()", model.place(), desk.place());
    }

    private void feedBoth(String text) {
        int[] f = Due.ints(text);
        for (int i = 0; i < f.length; i += 5) {
            same("feed", model.feed(f[i], f[i + 1], f[i + 2], f[i + 3], f[i + 4]),
                desk.feed(f[i], f[i + 1], f[i + 2], f[i + 3], f[i + 4]));
        }
        int rest = Due.rest(text);
        same("back(" + rest + ")", model.back(rest), desk.back(rest));
    }

    private static String text(int most) {
        StringBuilder s = new StringBuilder();
        int cells = 1 + luck(most);
        int forms = 1 + luck(most);
        int copies = pick("1", "2", "3", "3", "4", "5", "5").charAt(0) - '0';
        s.append("copies ").append(copies).append(';');
        if (luck(2) == 0) {
            s.append("primary ").append(luck(copies)).append(';');
        }
        if (luck(3) > 0) {
            s.append("seed ").append(luck(10000)).append(';');
        }
        for (int i = 0; i < cells; i++) {
            s.append("cell ").append((char) ('a' + i)).append(luck(5) == 0 ? luck(10000) : luck(4)).append(';');
        }
        for (int i = 0; i < forms; i++) {
            s.append("form f").append((char) ('a' + i)).append(" needs ").append(sum(cells, 0)).append(pick("<", "="))
                .append(sum(cells, 0)).append(" sets ").append(cell(cells)).append(' ').append(sum(cells, 0));
            if (luck(2) == 0) {
                s.append(" else ").append(cell(cells)).append(' ').append(sum(cells, 0));
            }
            s.append(pick(";", " ; ", "\n;\r\n"));
        }
        return s.toString();
    }

    private static char cell(int cells) {
        return (char) ('a' + luck(cells));
    }

    private static String sum(int cells, int depth) {
        StringBuilder s = new StringBuilder();
        int parts = luck(3) == 0 ? 2 + luck(2) : 1;
        for (int i = 0; i < parts; i++) {
            if (i > 0) {
                s.append(pick("+", "-", " + ", "*", "/", "-"));
            }
            int what = luck(12);
            if (what < 5) {
                s.append(cell(cells));
            } else if (what < 7) {
                s.append(luck(12));
            } else if (what < 8) {
                s.append('x');
            } else if (what < 9) {
                s.append("stamp");
            } else if (what < 10) {
                s.append("origin");
            } else if (depth < 6) {
                s.append('(').append(sum(cells, depth + 1)).append(')');
            } else {
                s.append(luck(3));
            }
        }
        return s.toString();
    }

    /** Mostly a number below n, now and then one just outside. */
    private static int near(int n) {
        int l = luck(25);
        if (l == 0) {
            return -1;
        }
        if (l == 1) {
            return n;
        }
        if (l == 2 && luck(5) == 0) {
            return pick("a", "b").equals("a") ? Integer.MIN_VALUE : Integer.MAX_VALUE;
        }
        return n < 1 ? 0 : luck(n);
    }

    private int copyNear() {
        return near(model.count(0));
    }

    private int writeNear() {
        return near(model.count(3));
    }

    private void doOne(int kind) {
        int what = luck(kind == 0 ? 40 : 100);
        if (what < 40) {
            int session = luck(2) == 0 ? -1 : luck(30) == 0 ? -2 : near(4);
            int copy = copyNear();
            int form = near(model.count(2));
            int x = luck(10) == 0 ? luck(2) == 0 ? Integer.MIN_VALUE : luck(Integer.MAX_VALUE) : luck(8);
            same("make(" + session + ", " + copy + ", " + form + ", " + x + ")", model.make(session, copy, form, x),
                desk.make(session, copy, form, x));
        } else if (what < 50) {
            int session = near(4);
            int copy = copyNear();
            int cell = near(model.count(1));
            same("ask(" + session + ", " + copy + ", " + cell + ")", model.ask(session, copy, cell),
                desk.ask(session, copy, cell));
        } else if (what < 56) {
            int session = near(4);
            int promises = near(16);
            same("promise(" + session + ", " + promises + ")", model.promise(session, promises),
                desk.promise(session, promises));
        } else if (what < 72) {
            int a = copyNear();
            int b = copyNear();
            same("meet(" + a + ", " + b + ")", model.meet(a, b), desk.meet(a, b));
        } else if (what < 78) {
            int copy = copyNear();
            same("lead(" + copy + ")", model.lead(copy), desk.lead(copy));
        } else if (what < 81) {
            int n = luck(12) == 0 ? near(61) : luck(4);
            same("chance(" + n + ")", model.chance(n), desk.chance(n));
        } else if (what < 90) {
            int times = luck(6) == 0 ? luck(45) : 1;
            for (int i = 0; i < times; i++) {
                same("undo()", model.undo(), desk.undo());
            }
        } else {
            doRare();
        }
    }

    private void doRare() {
        int what = luck(30);
        int slot = near(3);
        if (what < 10) {
            same("hold(" + slot + ")", model.hold(slot), desk.hold(slot));
        } else if (what < 14) {
            same("restore(" + slot + ")", model.restore(slot), desk.restore(slot));
        } else if (what < 15) {
            readText();
        } else if (what < 16) {
            feedBoth("copies 9; cell");
            same("read()", model.read(), desk.read());
            same("place()", model.place(), desk.place());
        } else if (what < 17) {
            int n = near(30);
            same("back(" + n + ")", model.back(n), desk.back(n));
        } else if (what < 18) {
            feedBoth("cell \u00ffa 3;");
        }
    }

    private void askOne() {
        int a = copyNear();
        int b = copyNear();
        int w = writeNear();
        int v = writeNear();
        int cell = near(model.count(1));
        int s = near(4);
        int two = near(2);
        boolean yes = luck(2) == 0;
        switch (luck(27)) {
            case 0:
                same("got(" + s + ")", model.got(s), desk.got(s));
                break;
            case 1:
                same("cell(" + a + ", " + cell + ", " + yes + ")", model.cell(a, cell, yes), desk.cell(a, cell, yes));
                break;
            case 2:
                same("log(" + a + ", " + w + ")", model.log(a, w), desk.log(a, w));
                break;
            case 3:
                same("outcome(" + a + ", " + w + ")", model.outcome(a, w), desk.outcome(a, w));
                break;
            case 4:
                int six = near(6);
                same("write(" + w + ", " + six + ")", model.write(w, six), desk.write(w, six));
                break;
            case 5:
                same("with(" + w + ")", model.with(w), desk.with(w));
                break;
            case 6:
                int nine = near(9);
                same("copy(" + a + ", " + nine + ")", model.copy(a, nine), desk.copy(a, nine));
                break;
            case 7:
                same("vector(" + a + ", " + b + ")", model.vector(a, b), desk.vector(a, b));
                break;
            case 8:
                same("session(" + s + ", " + two + ")", model.session(s, two), desk.session(s, two));
                break;
            case 9:
                same("of(" + s + ", " + a + ", " + yes + ")", model.of(s, a, yes), desk.of(s, a, yes));
                break;
            case 10:
                int eight = near(8);
                same("shut(" + eight + ")", model.shut(eight), desk.shut(eight));
                break;
            case 11:
                same("lacks(" + a + ", " + b + ")", model.lacks(a, b), desk.lacks(a, b));
                break;
            case 12:
                same("would(" + a + ", " + b + ")", model.would(a, b), desk.would(a, b));
                break;
            case 13:
                same("differ(" + a + ", " + b + ")", model.differ(a, b), desk.differ(a, b));
                break;
            case 14:
                same("alike(" + a + ", " + b + ")", model.alike(a, b), desk.alike(a, b));
                break;
            case 15:
                same("hangs(" + a + ", " + w + ", " + two + ")", model.hangs(a, w, two), desk.hangs(a, w, two));
                break;
            case 16:
                same("behind(" + a + ", " + cell + ", " + w + ")", model.behind(a, cell, w), desk.behind(a, cell, w));
                break;
            case 17:
                same("fork(" + a + ", " + b + ")", model.fork(a, b), desk.fork(a, b));
                break;
            case 18:
                same("share(" + a + ")", model.share(a), desk.share(a));
                break;
            case 19:
                same("setter(" + a + ", " + cell + ")", model.setter(a, cell), desk.setter(a, cell));
                break;
            case 20:
                same("ahead(" + a + ", " + w + ", " + v + ")", model.ahead(a, w, v), desk.ahead(a, w, v));
                break;
            case 21:
                same("may(" + s + ", " + yes + ")", model.may(s, yes), desk.may(s, yes));
                break;
            case 22:
                int three = near(3);
                same("plan(" + three + ")", model.plan(three), desk.plan(three));
                break;
            case 23:
                same("clash(" + a + ")", model.clash(a), desk.clash(a));
                break;
            case 24:
                same("fault", model.place(), desk.place());
                break;
            default:
                int nineteen = near(19);
                same("count(" + nineteen + ")", model.count(nineteen), desk.count(nineteen));
                break;
        }
    }

    private void askMuch() {
        int n = near(61);
        int s = 1 + luck(3);
        same("soon()", model.soon(), desk.soon());
        same("year(" + n + ", " + s + ")", model.year(n, s), desk.year(n, s));
        int odd = luck(3) == 0 ? pick("a", "b").equals("a") ? 0 : 21 : 1;
        same("year(1, " + odd + ")", model.year(1, odd), desk.year(1, odd));
        int a = copyNear();
        same("key(" + a + ", 0)", model.key(a, 0), desk.key(a, 0));
        int what = near(2);
        same("key(" + a + ", " + what + ")", model.key(a, what), desk.key(a, what));
        for (int what2 = -1; what2 < 20; what2++) {
            same("count(" + what2 + ")", model.count(what2), desk.count(what2));
        }
        for (int copy = 0; copy < model.count(0); copy++) {
            for (int i = 0; i < 9; i++) {
                same("copy(" + copy + ", " + i + ")", model.copy(copy, i), desk.copy(copy, i));
            }
            for (int cell = 0; cell < model.count(1); cell++) {
                same("cell(" + copy + ", " + cell + ", false)", model.cell(copy, cell, false),
                    desk.cell(copy, cell, false));
                same("cell(" + copy + ", " + cell + ", true)", model.cell(copy, cell, true),
                    desk.cell(copy, cell, true));
            }
        }
    }
}
