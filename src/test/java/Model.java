import java.util.ArrayDeque;
import java.util.ArrayList;
import java.util.Comparator;
import java.util.Deque;
import java.util.HashMap;
import java.util.List;
import java.util.Map;
import java.util.TreeSet;

/** The document once more, in its plainest form: whole states are copied, logs sorted, hunts made by trial. */
final class Model {
    static final int NONE = -1;

    /** A node of an expression; a sign of 0 is a leaf. */
    static final class Node {
        char sign;
        Node left;
        Node right;
        String leaf;
        int value;
    }

    static final class Form {
        Node[] parts = new Node[4];
        boolean less;
        int target;
        int elseTarget = NONE;
    }

    static final class Text {
        int copies = 3;
        int primary;
        int seed;
        List<Integer> cells = new ArrayList<>();
        List<Form> forms = new ArrayList<>();
    }

    @SuppressWarnings("serial")
    static final class Fault extends RuntimeException {
        final int why;
        final int at;

        Fault(int why, int at) {
            super(null, null, false, false);
            this.why = why;
            this.at = at;
        }
    }

    @SuppressWarnings("serial")
    static final class Stuck extends RuntimeException {
        Stuck() {
            super(null, null, false, false);
        }
    }

    static final class Token {
        String text;
        int at;
    }

    /** Recursive descent over a list of tokens. */
    static final class Parser {
        final List<Token> tokens = new ArrayList<>();
        final List<Fault> later = new ArrayList<>();
        final Map<String, Integer> names = new HashMap<>();
        final Text text = new Text();
        int next;
        int nested;

        static final List<String> WORDS = List.of("copies", "primary", "cell", "form", "needs", "sets", "else",
            "seed", "x", "stamp", "origin");

        Parser(String tape) {
            int at = 0;
            while (at < tape.length()) {
                char c = tape.charAt(at);
                if ("\t\n\r ".indexOf(c) >= 0) {
                    at++;
                    continue;
                }
                Token token = new Token();
                token.at = at;
                int end = at + 1;
                if (c >= 'a' && c <= 'z') {
                    while (end < tape.length() && tape.charAt(end) >= 'a' && tape.charAt(end) <= 'z') {
                        end++;
                    }
                } else if (c >= '0' && c <= '9') {
                    while (end < tape.length() && tape.charAt(end) >= '0' && tape.charAt(end) <= '9') {
                        end++;
                    }
                }
                token.text = tape.substring(at, end);
                tokens.add(token);
                at = end;
            }
            Token last = new Token();
            last.text = "";
            last.at = tape.length();
            tokens.add(last);
        }

        String peek() {
            String t = tokens.get(next).text;
            if (t.isEmpty() || WORDS.contains(t)) {
                return t;
            }
            if (t.matches("[a-z]{1,8}")) {
                return "NAME";
            }
            if (t.matches("[0-9]{1,4}")) {
                return "INT";
            }
            return ";=+-*/<()".contains(t) ? t : "?";
        }

        int at() {
            return tokens.get(next).at;
        }

        String take(String... oneOf) {
            for (String s : oneOf) {
                if (s.equals(peek()) && !s.isEmpty()) {
                    if (next >= 400) {
                        throw new Fault(2, at());
                    }
                    return tokens.get(next++).text;
                }
            }
            throw new Fault(1, at());
        }

        Text parse() {
            while (!peek().isEmpty()) {
                tell();
            }
            if (text.primary >= text.copies) {
                later.add(new Fault(6, at()));
            }
            if (!later.isEmpty()) {
                throw later.get(0);
            }
            return text;
        }

        void tell() {
            int start = at();
            String word = take("copies", "primary", "cell", "form", "seed");
            if (word.equals("cell") && text.cells.size() == 6 || word.equals("form") && text.forms.size() == 6) {
                throw new Fault(2, start);
            }
            if (word.equals("cell")) {
                name(text.cells.size());
                text.cells.add(Integer.parseInt(take("INT")));
            } else if (word.equals("form")) {
                form();
            } else {
                int at = at();
                int n = Integer.parseInt(take("INT"));
                if (word.equals("copies")) {
                    text.copies = n;
                } else if (word.equals("primary")) {
                    text.primary = n;
                } else {
                    text.seed = n;
                }
                if (word.equals("copies") && (n == 0 || n > 5) || word.equals("primary") && n > 4) {
                    later.add(new Fault(5, at));
                }
            }
            take(";");
        }

        void name(int cell) {
            int at = at();
            String name = take("NAME");
            if (names.putIfAbsent(name, cell) != null) {
                later.add(new Fault(3, at));
            }
        }

        int cell() {
            int at = at();
            int found = names.getOrDefault(take("NAME"), NONE);
            if (found == NONE) {
                later.add(new Fault(4, at));
            }
            return found;
        }

        void form() {
            Form f = new Form();
            name(NONE);
            take("needs");
            f.parts[0] = sum();
            f.less = take("<", "=").equals("<");
            f.parts[1] = sum();
            take("sets");
            f.target = cell();
            f.parts[2] = sum();
            if (peek().equals("else")) {
                take("else");
                f.elseTarget = cell();
                f.parts[3] = sum();
            }
            text.forms.add(f);
        }

        Node sum() {
            Node left = product();
            while (peek().equals("+") || peek().equals("-")) {
                left = both(take("+", "-"), left, product());
            }
            return left;
        }

        Node product() {
            Node left = unit();
            while (peek().equals("*") || peek().equals("/")) {
                left = both(take("*", "/"), left, unit());
            }
            return left;
        }

        Node both(String sign, Node left, Node right) {
            Node n = new Node();
            n.sign = sign.charAt(0);
            n.left = left;
            n.right = right;
            return n;
        }

        Node unit() {
            Node n = new Node();
            n.leaf = peek();
            int at = at();
            if (n.leaf.equals("NAME")) {
                n.value = cell();
                return n;
            }
            String told = take("INT", "x", "stamp", "origin", "(");
            if (told.equals("(")) {
                if (nested == 6) {
                    throw new Fault(2, at);
                }
                nested++;
                n = sum();
                nested--;
                take(")");
            } else if (n.leaf.equals("INT")) {
                n.value = Integer.parseInt(told);
            }
            return n;
        }
    }

    static final class W {
        int form;
        int x;
        int origin;
        int stamp;
    }

    static final class Copy {
        TreeSet<Integer> has = new TreeSet<>();
        int knows;
        int rolled;
        int again;
        int opened;
        int closed;
    }

    static final class Session {
        int promises;
        int refused;
        int told;
        int[] seen = new int[5];
        int[] own = new int[5];
    }

    static final class State {
        List<W> writes = new ArrayList<>();
        List<Integer> order = new ArrayList<>();
        List<Copy> copies = new ArrayList<>();
        List<Session> sessions = new ArrayList<>();
        List<Integer> closed = new ArrayList<>();
        int primary;
        int chances;

        State deep() {
            State s = new State();
            s.writes.addAll(writes);
            s.order.addAll(order);
            s.closed.addAll(closed);
            s.primary = primary;
            s.chances = chances;
            for (Copy c : copies) {
                Copy d = new Copy();
                d.has.addAll(c.has);
                d.knows = c.knows;
                d.rolled = c.rolled;
                d.again = c.again;
                d.opened = c.opened;
                d.closed = c.closed;
                s.copies.add(d);
            }
            for (Session o : sessions) {
                Session p = new Session();
                p.promises = o.promises;
                p.refused = o.refused;
                p.told = o.told;
                p.seen = o.seen.clone();
                p.own = o.own.clone();
                s.sessions.add(p);
            }
            return s;
        }

        int vector(int copy, int origin) {
            int most = 0;
            for (int w : copies.get(copy).has) {
                if (writes.get(w).origin == origin) {
                    most = Math.max(most, writes.get(w).stamp);
                }
            }
            return most;
        }

        int clock(int copy) {
            int most = 0;
            for (int w : copies.get(copy).has) {
                most = Math.max(most, writes.get(w).stamp);
            }
            return most;
        }

        List<Integer> log(int copy) {
            Copy c = copies.get(copy);
            List<Integer> log = new ArrayList<>(order.subList(0, c.knows));
            List<Integer> rest = new ArrayList<>(c.has);
            rest.removeAll(log);
            rest.sort(Comparator.comparingInt((Integer w) -> writes.get(w).stamp)
                .thenComparingInt(w -> writes.get(w).origin));
            log.addAll(rest);
            return log;
        }

        void commit() {
            for (int w : log(primary)) {
                if (!order.contains(w)) {
                    order.add(w);
                }
            }
            copies.get(primary).knows = order.size();
        }

        void open(int copy) {
            copies.get(copy).opened++;
        }

        void close(int copy) {
            copies.get(copy).closed++;
            closed.add(0, copy);
        }

        int meet(int a, int b) {
            open(b);
            open(a);
            List<Integer> before = log(b);
            Copy to = copies.get(b);
            boolean any = to.has.addAll(copies.get(a).has);
            to.knows = Math.max(to.knows, copies.get(a).knows);
            if (any && b == primary) {
                commit();
            }
            List<Integer> after = log(b);
            int same = alike(before, after);
            int rolled = before.size() - same;
            to.rolled += rolled;
            to.again += after.size() - same;
            close(a);
            close(b);
            return rolled;
        }

        static int alike(List<Integer> a, List<Integer> b) {
            int same = 0;
            while (same < Math.min(a.size(), b.size()) && a.get(same).equals(b.get(same))) {
                same++;
            }
            return same;
        }

        boolean alike(int a, int b) {
            return copies.get(a).has.equals(copies.get(b).has) && copies.get(a).knows == copies.get(b).knows;
        }

        boolean allAlike() {
            for (int c = 0; c < copies.size(); c++) {
                if (!alike(0, c)) {
                    return false;
                }
            }
            return true;
        }

        boolean settled() {
            return allAlike() && order.size() == writes.size();
        }

        void chance(int seed) {
            int m = chances++;
            int n = copies.size();
            if (n > 1) {
                int a = lot(n, seed, 2 * m);
                meet(a, (a + 1 + lot(n - 1, seed, 2 * m + 1)) % n);
            }
        }

        static int lot(int n, int seed, int which) {
            int h = seed;
            for (int it : new int[] {223, which}) {
                h = (h ^ it) * 1103515245 + 12345;
                h = h ^ (h >>> 15);
            }
            return (h >>> 1) % n;
        }

        boolean refusedAsk(int s, int copy) {
            Session o = sessions.get(s);
            return (o.promises & 1) != 0 && less(copy, o.own) || (o.promises & 2) != 0 && less(copy, o.seen);
        }

        boolean refusedMake(int s, int copy) {
            Session o = sessions.get(s);
            return (o.promises & 4) != 0 && less(copy, o.seen) || (o.promises & 8) != 0 && less(copy, o.own);
        }

        boolean less(int copy, int[] than) {
            for (int c = 0; c < copies.size(); c++) {
                if (vector(copy, c) < than[c]) {
                    return true;
                }
            }
            return false;
        }
    }

    /** What a list of writes does to the cells. */
    static final class Run {
        List<int[]> cells = new ArrayList<>();
        List<Integer> outcomes = new ArrayList<>();
        List<Integer> targets = new ArrayList<>();
    }

    private StringBuilder tape = new StringBuilder();
    private int place = NONE;
    private Text text = new Text();
    private State now = fresh(new Text());
    private final Deque<State> past = new ArrayDeque<>();
    private final State[] slots = new State[3];

    private static State fresh(Text t) {
        State s = new State();
        s.primary = t.primary;
        for (int i = 0; i < t.copies; i++) {
            s.copies.add(new Copy());
        }
        for (int i = 0; i < 4; i++) {
            s.sessions.add(new Session());
        }
        return s;
    }

    private void keep() {
        past.addLast(now.deep());
        if (past.size() > 40) {
            past.removeFirst();
        }
    }

    private int eval(Node n, int[] cells, W w) {
        if (n.sign == 0) {
            switch (n.leaf) {
                case "INT":
                    return n.value;
                case "x":
                    return w.x;
                case "stamp":
                    return w.stamp;
                case "origin":
                    return w.origin;
                default:
                    return cells[n.value];
            }
        }
        int a = eval(n.left, cells, w);
        int b = eval(n.right, cells, w);
        switch (n.sign) {
            case '+':
                return a + b;
            case '-':
                return a - b;
            case '*':
                return a * b;
            default:
                if (b == 0) {
                    throw new Stuck();
                }
                return (int) ((long) a / (long) b);
        }
    }

    private Run run(List<Integer> log) {
        Run run = new Run();
        int[] cells = new int[text.cells.size()];
        for (int i = 0; i < cells.length; i++) {
            cells[i] = text.cells.get(i);
        }
        run.cells.add(cells.clone());
        for (int number : log) {
            W w = now.writes.get(number);
            Form f = text.forms.get(w.form);
            int outcome;
            int target = NONE;
            try {
                int a = eval(f.parts[0], cells, w);
                int b = eval(f.parts[1], cells, w);
                if (f.less ? a < b : a == b) {
                    outcome = 0;
                    cells[f.target] = eval(f.parts[2], cells, w);
                    target = f.target;
                } else if (f.elseTarget != NONE) {
                    outcome = 1;
                    cells[f.elseTarget] = eval(f.parts[3], cells, w);
                    target = f.elseTarget;
                } else {
                    outcome = 2;
                }
            } catch (Stuck s) {
                outcome = 3;
            }
            run.outcomes.add(outcome);
            run.targets.add(target);
            run.cells.add(cells.clone());
        }
        return run;
    }

    private boolean c(int copy) {
        return copy >= 0 && copy < text.copies;
    }

    private boolean w(int write) {
        return write >= 0 && write < now.writes.size();
    }

    private boolean k(int cell) {
        return cell >= 0 && cell < text.cells.size();
    }

    private static boolean s(int session) {
        return session >= 0 && session < 4;
    }

    int feed(int... five) {
        if (tape.length() > 1980) {
            return NONE;
        }
        for (int f : five) {
            for (int i = 3; i >= 0; i--) {
                tape.append((char) (f >>> (8 * i) & 255));
            }
        }
        return tape.length();
    }

    int back(int n) {
        if (n < 0 || n > tape.length()) {
            return NONE;
        }
        tape.setLength(tape.length() - n);
        return tape.length();
    }

    int read() {
        String told = tape.toString();
        tape = new StringBuilder();
        place = NONE;
        try {
            text = new Parser(told).parse();
        } catch (Fault f) {
            place = f.at;
            return f.why;
        }
        now = fresh(text);
        past.clear();
        for (int i = 0; i < 3; i++) {
            slots[i] = null;
        }
        return 0;
    }

    int place() {
        return place;
    }

    int make(int session, int copy, int form, int x) {
        if (session < -1 || session > 3 || !c(copy) || form < 0 || form >= text.forms.size()) {
            return NONE;
        }
        keep();
        now.open(copy);
        int answer = NONE;
        if (session >= 0 && now.refusedMake(session, copy)) {
            now.sessions.get(session).refused++;
            answer = -2;
        } else if (now.writes.size() < 60) {
            W w = new W();
            w.form = form;
            w.x = x;
            w.origin = copy;
            w.stamp = now.clock(copy) + 1;
            answer = now.writes.size();
            now.writes.add(w);
            now.copies.get(copy).has.add(answer);
            if (session >= 0) {
                now.sessions.get(session).own[copy] = w.stamp;
            }
            if (copy == now.primary) {
                now.commit();
            }
        }
        now.close(copy);
        return answer;
    }

    int ask(int session, int copy, int cell) {
        if (!s(session) || !c(copy) || !k(cell)) {
            return NONE;
        }
        keep();
        now.open(copy);
        Session o = now.sessions.get(session);
        boolean refused = now.refusedAsk(session, copy);
        if (refused) {
            o.refused++;
        } else {
            for (int i = 0; i < text.copies; i++) {
                o.seen[i] = Math.max(o.seen[i], now.vector(copy, i));
            }
            o.told = cell(copy, cell, false);
        }
        now.close(copy);
        return refused ? 0 : 1;
    }

    int got(int session) {
        return s(session) ? now.sessions.get(session).told : 0;
    }

    boolean promise(int session, int promises) {
        if (!s(session) || promises < 0 || promises > 15 || now.sessions.get(session).promises == promises) {
            return false;
        }
        keep();
        now.sessions.get(session).promises = promises;
        return true;
    }

    int meet(int a, int b) {
        if (!c(a) || !c(b) || a == b) {
            return NONE;
        }
        keep();
        return now.meet(a, b);
    }

    boolean lead(int copy) {
        if (!c(copy) || now.primary == copy || now.copies.get(copy).knows != now.order.size()) {
            return false;
        }
        keep();
        now.primary = copy;
        now.open(copy);
        now.close(copy);
        return true;
    }

    int chance(int n) {
        if (n < 0 || n > 60) {
            return NONE;
        }
        if (n > 0) {
            keep();
        }
        for (int i = 0; i < n; i++) {
            now.chance(text.seed);
        }
        return now.chances;
    }

    boolean undo() {
        if (past.isEmpty()) {
            return false;
        }
        now = past.removeLast();
        return true;
    }

    int cell(int copy, int cell, boolean good) {
        if (!c(copy) || !k(cell)) {
            return 0;
        }
        List<Integer> log = now.log(copy);
        if (good) {
            log = now.order.subList(0, now.copies.get(copy).knows);
        }
        return run(log).cells.get(log.size())[cell];
    }

    int log(int copy, int i) {
        return c(copy) && i >= 0 && i < now.log(copy).size() ? now.log(copy).get(i) : NONE;
    }

    int outcome(int copy, int write) {
        if (!c(copy) || !w(write)) {
            return NONE;
        }
        int at = now.log(copy).indexOf(write);
        return at < 0 ? -2 : run(now.log(copy)).outcomes.get(at);
    }

    int write(int write, int what) {
        if (!w(write) || what < 0 || what > 5) {
            return NONE;
        }
        W w = now.writes.get(write);
        int at = now.order.indexOf(write);
        int have = 0;
        int know = 0;
        for (int i = 0; i < text.copies; i++) {
            have += now.copies.get(i).has.contains(write) ? 1 << i : 0;
            know += at >= 0 && now.copies.get(i).knows > at ? 1 << i : 0;
        }
        return new int[] {w.form, w.origin, w.stamp, at < 0 ? -2 : at, have, know}[what];
    }

    int with(int write) {
        return w(write) ? now.writes.get(write).x : 0;
    }

    int copy(int copy, int what) {
        if (!c(copy) || what < 0 || what > 8) {
            return NONE;
        }
        Copy c = now.copies.get(copy);
        int merged = 0;
        int nothing = 0;
        for (int o : run(now.log(copy)).outcomes) {
            merged += o == 1 ? 1 : 0;
            nothing += o > 1 ? 1 : 0;
        }
        return new int[] {now.clock(copy), c.has.size(), c.knows, c.rolled, c.again, c.opened, c.closed, merged,
            nothing}[what];
    }

    int vector(int copy, int origin) {
        return c(copy) && c(origin) ? now.vector(copy, origin) : NONE;
    }

    int session(int session, int what) {
        if (!s(session) || what < 0 || what > 1) {
            return NONE;
        }
        return what == 0 ? now.sessions.get(session).promises : now.sessions.get(session).refused;
    }

    int of(int session, int origin, boolean own) {
        if (!s(session) || !c(origin)) {
            return NONE;
        }
        return own ? now.sessions.get(session).own[origin] : now.sessions.get(session).seen[origin];
    }

    int shut(int i) {
        return i < 0 || i > 7 ? NONE : i < now.closed.size() ? now.closed.get(i) : -2;
    }

    int lacks(int a, int b) {
        if (!c(a) || !c(b)) {
            return NONE;
        }
        TreeSet<Integer> more = new TreeSet<>(now.copies.get(a).has);
        more.removeAll(now.copies.get(b).has);
        return more.size();
    }

    int would(int a, int b) {
        return c(a) && c(b) && a != b ? now.deep().meet(a, b) : NONE;
    }

    int differ(int a, int b) {
        if (!c(a) || !c(b)) {
            return NONE;
        }
        int bits = 0;
        for (int i = 0; i < text.cells.size(); i++) {
            bits += cell(a, i, false) != cell(b, i, false) ? 1 << i : 0;
        }
        return bits;
    }

    int alike(int a, int b) {
        return c(a) && c(b) ? now.alike(a, b) ? 1 : 0 : NONE;
    }

    int hangs(int copy, int write, int what) {
        if (!c(copy) || !w(write) || what < 0 || what > 1) {
            return NONE;
        }
        List<Integer> log = now.log(copy);
        int at = log.indexOf(write);
        if (at < 0) {
            return -3;
        }
        List<Integer> without = new ArrayList<>(log);
        without.remove(at);
        Run a = run(log);
        Run b = run(without);
        int many = 0;
        int first = -2;
        for (int i = log.size() - 1; i > at; i--) {
            if (!a.outcomes.get(i).equals(b.outcomes.get(i - 1))) {
                many++;
                first = log.get(i);
            }
        }
        return what == 0 ? many : first;
    }

    int behind(int copy, int cell, int i) {
        if (!c(copy) || !k(cell) || i < 0) {
            return 0;
        }
        List<Integer> log = now.log(copy);
        return run(log).cells.get(Math.min(i, log.size()))[cell];
    }

    int fork(int a, int b) {
        return c(a) && c(b) ? State.alike(now.log(a), now.log(b)) : NONE;
    }

    int key(int copy, int what) {
        if (!c(copy) || what < 0 || what > 1) {
            return NONE;
        }
        int best = -2;
        for (int w : now.log(copy)) {
            int many = hangs(copy, w, 0);
            if (many > 0 && (best == -2 || many > hangs(copy, best, 0))) {
                best = w;
            }
        }
        return what == 0 || best == -2 ? best : hangs(copy, best, 0);
    }

    int share(int copy) {
        if (!c(copy)) {
            return NONE;
        }
        return now.writes.isEmpty() ? 0 : 1000 * now.copies.get(copy).has.size() / now.writes.size();
    }

    int setter(int copy, int cell) {
        if (!c(copy) || !k(cell)) {
            return NONE;
        }
        int at = run(now.log(copy)).targets.lastIndexOf(cell);
        return at < 0 ? -2 : now.log(copy).get(at);
    }

    int ahead(int copy, int write, int other) {
        if (!c(copy) || !w(write) || !w(other) || write == other) {
            return NONE;
        }
        int a = now.log(copy).indexOf(write);
        int b = now.log(copy).indexOf(other);
        return a < 0 || b < 0 ? -2 : a < b ? 1 : 0;
    }

    int may(int session, boolean make) {
        if (!s(session)) {
            return NONE;
        }
        int bits = 0;
        for (int i = 0; i < text.copies; i++) {
            bits += (make ? now.refusedMake(session, i) : now.refusedAsk(session, i)) ? 0 : 1 << i;
        }
        return bits;
    }

    int plan(int what) {
        if (what < 0 || what > 2) {
            return NONE;
        }
        for (int few = 0; few <= text.copies; few++) {
            for (int bits = 0; bits < 1 << text.copies; bits++) {
                if (Integer.bitCount(bits) != few || (bits >> now.primary & 1) != 0) {
                    continue;
                }
                State tried = now.deep();
                meetBy(tried, bits, true);
                if (tried.copies.get(now.primary).has.size() == tried.writes.size()) {
                    int back = takers(tried);
                    return what == 0 ? few + Integer.bitCount(back) : what == 1 ? bits : back;
                }
            }
        }
        throw new IllegalStateException();
    }

    private void meetBy(State state, int bits, boolean toPrimary) {
        for (int i = 0; i < text.copies; i++) {
            if ((bits >> i & 1) != 0) {
                state.meet(toPrimary ? i : state.primary, toPrimary ? state.primary : i);
            }
        }
    }

    private int takers(State from) {
        for (int few = 0; few <= text.copies; few++) {
            for (int bits = 0; bits < 1 << text.copies; bits++) {
                if (Integer.bitCount(bits) == few && (bits >> from.primary & 1) == 0) {
                    State tried = from.deep();
                    meetBy(tried, bits, false);
                    if (tried.allAlike()) {
                        return bits;
                    }
                }
            }
        }
        throw new IllegalStateException();
    }

    int clash(int copy) {
        if (!c(copy)) {
            return NONE;
        }
        for (int w : now.log(copy)) {
            if (outcome(copy, w) != 0) {
                return w;
            }
        }
        return -2;
    }

    int soon() {
        State tried = now.deep();
        for (int i = 0; i <= 60; i++) {
            if (tried.settled()) {
                return i;
            }
            tried.chance(text.seed);
        }
        return -2;
    }

    int year(int n, int s) {
        if (n < 0 || n > 60 || s < 1 || s > 20) {
            return NONE;
        }
        int many = 0;
        for (int i = 0; i < s; i++) {
            State tried = now.deep();
            for (int m = 0; m < n; m++) {
                tried.chance(text.seed + i);
            }
            many += tried.settled() ? 1 : 0;
        }
        return many;
    }

    boolean hold(int slot) {
        if (slot < 0 || slot > 2) {
            return false;
        }
        slots[slot] = now.deep();
        return true;
    }

    boolean restore(int slot) {
        if (slot < 0 || slot > 2 || slots[slot] == null) {
            return false;
        }
        now = slots[slot].deep();
        past.clear();
        return true;
    }

    int count(int what) {
        int[] sums = new int[10];
        int least = now.order.size();
        TreeSet<Integer> all = new TreeSet<>(now.copies.get(0).has);
        for (Copy c : now.copies) {
            sums[0] += c.rolled;
            sums[1] += c.opened;
            sums[2] += c.closed;
            least = Math.min(least, c.knows);
            all.retainAll(c.has);
        }
        for (Session o : now.sessions) {
            sums[3] += o.refused;
        }
        for (State slot : slots) {
            sums[4] += slot == null ? 0 : 1;
        }
        int[] counts = {text.copies, text.cells.size(), text.forms.size(), now.writes.size(), now.order.size(),
            now.primary, now.chances, sums[0], tape.length(), past.size(), now.allAlike() ? 1 : 0, sums[4], sums[1],
            sums[2], least, all.size(), sums[3], copy(now.primary, 7), copy(now.primary, 8)};
        return what < 0 || what >= counts.length ? NONE : counts[what];
    }
}
