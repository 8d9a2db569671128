import java.util.ArrayList;
import java.util.HashMap;
import java.util.List;
import java.util.Map;

/**
 * The document once more, written another way: objects, lists, maps and exceptions, texts read by
 * a stack of signs. ModelTest compares its answers with the program's.
 */
final class Model {
    static final int NONE = -1, BAD = -2, STATE = -3, FULL = -4;
    static final long NO = -4611686018427387904L;

    // ---- what there is

    static final class Person implements Cloneable {
        int from, wanted, fat;
        Seat on, satDown;
        int sat, stood, risen = -1;

        Person(int from, int wanted, int fat) {
            this.from = from;
            this.wanted = wanted;
            this.fat = fat;
        }

        Person fresh() {
            return new Person(from, wanted, fat);
        }
    }

    static class Seat {
        int number, more, till;
        Person sitter;
        boolean banned;

        int keeps(int warm, int sat) { return warm; }
        boolean lets(int minute) { return true; }
        boolean warmBy(boolean beside) { return false; }
    }

    static class Cushioned extends Seat {
        @Override int keeps(int warm, int sat) { return warm + more; }
    }

    static class Draughty extends Seat {
        @Override int keeps(int warm, int sat) { return warm / 2; }
    }

    static final class Stove extends Cushioned {
        @Override boolean lets(int minute) { return minute < more; }
        @Override boolean warmBy(boolean beside) { return true; }
    }

    static final class Stool extends Draughty {
        @Override int keeps(int warm, int sat) { return sat < more ? 0 : 2 * super.keeps(warm, sat); }
    }

    static final class Bench extends Seat {
        @Override boolean warmBy(boolean beside) { return beside; }
    }

    static Seat seat(int kind, int more, int number) {
        Seat s = kind == 0 ? new Seat() : kind == 1 ? new Cushioned() : kind == 2 ? new Draughty()
            : kind == 3 ? new Stove() : kind == 4 ? new Stool() : new Bench();
        s.more = more;
        s.number = number;
        return s;
    }

    static final class State {
        List<int[]> people = new ArrayList<>();
        List<int[]> chairs = new ArrayList<>();
        int style = 0, bits = 1, minutes = 9, law = 0;

        State twin() {
            State t = new State();
            for (int[] p : people) t.people.add(p.clone());
            for (int[] c : chairs) t.chairs.add(c.clone());
            t.style = style;
            t.bits = bits;
            t.minutes = minutes;
            t.law = law;
            return t;
        }
    }

    State now = new State();
    State image = null;
    final List<String> texts = new ArrayList<>(List.of("warm 3 + fat + more ; first minute ; costs stood ;"));
    final StringBuilder tape = new StringBuilder();
    final Object[] sheets = new Object[4];

    // ---- texts

    /** Thrown where the document tells a FAULT. */
    static final class Fault extends Exception {
        private static final long serialVersionUID = 1L;
        final int place;

        Fault(int place) {
            this.place = place;
        }
    }

    static final class Token {
        final String word;
        final int place;

        Token(String word, int place) {
            this.word = word;
            this.place = place;
        }
    }

    static final List<String> NAMES = List.of("fat", "more", "sat", "stood", "minute", "number");

    /** The token from a place on; null: there is none; an empty word: it is none that is known. */
    static Token token(String text, int at) {
        int i = at;
        while (i < text.length() && (text.charAt(i) == ' ' || text.charAt(i) == '\n')) i++;
        if (i == text.length()) return null;
        java.util.regex.Matcher m = java.util.regex.Pattern.compile("[a-z]+|[0-9]+|[();+\\-*<=]").matcher(text);
        if (!m.find(i) || m.start() != i) return new Token("", i);
        return new Token(m.group(), i);
    }

    /** Each part as postfix words, read with one stack of signs and no recursion. */
    static List<List<String>> read(String text) throws Fault {
        List<List<String>> parts = new ArrayList<>();
        int at = 0;
        for (String key : new String[] {"warm", "first", "costs"}) {
            Token t = need(text, at);
            if (!t.word.equals(key)) throw new Fault(t.place);
            List<String> out = new ArrayList<>();
            at = readPart(text, t.place + key.length(), out);
            parts.add(out);
        }
        Token more = token(text, at);
        if (more != null) throw new Fault(more.place);
        return parts;
    }

    private static Token need(String text, int at) throws Fault {
        Token t = token(text, at);
        if (t == null) throw new Fault(text.length());
        return t;
    }

    private static int level(String sign) {
        switch (sign) {
            case "or": return 1;
            case "and": return 2;
            case "not": return 3;
            case "<": case "=": return 4;
            case "+": case "-": return 5;
            case "*": return 6;
            case "neg": return 7;
            default: return 0;
        }
    }

    private static int open(List<String> signs) {
        int open = 0;
        for (String s : signs) if (s.equals("(") || s.equals("not") || s.equals("neg")) open++;
        return open;
    }

    /** Signs that bind as tightly, or more, leave the stack. */
    private static void close(List<String> signs, List<String> out, int level) {
        while (!signs.isEmpty() && level(signs.get(signs.size() - 1)) >= level && level(signs.get(signs.size() - 1)) > 0) {
            out.add(signs.remove(signs.size() - 1));
        }
    }

    private static String top(List<String> signs) {
        return signs.isEmpty() ? "" : signs.get(signs.size() - 1);
    }

    private static int readPart(String text, int from, List<String> out) throws Fault {
        List<String> signs = new ArrayList<>();
        boolean operandDue = true;
        int at = from;
        while (true) {
            Token t = need(text, at);
            String w = t.word;
            at = t.place + w.length();
            boolean digits = w.matches("[0-9]+");
            if (operandDue) {
                boolean newNot = top(signs).isEmpty() || List.of("(", "not", "or", "and").contains(top(signs));
                if (digits && w.length() <= 4 || NAMES.contains(w)) {
                    out.add(w);
                    close(signs, out, 7);
                    operandDue = false;
                } else if (w.equals("(") || w.equals("-") || w.equals("not") && newNot) {
                    if (open(signs) >= 5) throw new Fault(t.place);
                    signs.add(w.equals("-") ? "neg" : w);
                } else {
                    throw new Fault(t.place);
                }
            } else if (List.of("+", "-", "*").contains(w)) {
                close(signs, out, level(w));
                signs.add(w);
                operandDue = true;
            } else if (w.equals("<") || w.equals("=")) {
                close(signs, out, 5);
                if (top(signs).equals("<") || top(signs).equals("=")) throw new Fault(t.place);
                signs.add(w);
                operandDue = true;
            } else if (w.equals("or") || w.equals("and")) {
                close(signs, out, level(w));
                signs.add(w);
                operandDue = true;
            } else if (w.equals(")")) {
                close(signs, out, 1);
                if (!top(signs).equals("(")) throw new Fault(t.place);
                signs.remove(signs.size() - 1);
                close(signs, out, 7);
            } else if (w.equals(";")) {
                close(signs, out, 1);
                if (!signs.isEmpty()) throw new Fault(t.place);
                return at;
            } else {
                throw new Fault(t.place);
            }
        }
    }

    private final Map<String, List<List<String>>> readTexts = new HashMap<>();

    private List<List<String>> parts(String text) {
        return readTexts.computeIfAbsent(text, t -> {
            try {
                return read(t);
            } catch (Fault f) {
                throw new IllegalStateException(f);
            }
        });
    }

    /** What a part of a text says, of names in their order. */
    int says(int text, int part, int... names) {
        List<Integer> stack = new ArrayList<>();
        for (String w : parts(texts.get(text)).get(part)) {
            int last = stack.size() - 1;
            if (NAMES.contains(w)) stack.add(names[NAMES.indexOf(w)]);
            else if (w.matches("[0-9]+")) stack.add(Integer.parseInt(w));
            else if (w.equals("not")) stack.set(last, stack.get(last) == 0 ? 1 : 0);
            else if (w.equals("neg")) stack.set(last, -stack.get(last));
            else {
                int b = stack.remove(last);
                int a = stack.get(last - 1);
                stack.set(last - 1, w.equals("or") ? (a != 0 || b != 0 ? 1 : 0) : w.equals("and") ? (a != 0 && b != 0 ? 1 : 0)
                    : w.equals("<") ? (a < b ? 1 : 0) : w.equals("=") ? (a == b ? 1 : 0)
                    : w.equals("+") ? a + b : w.equals("-") ? a - b : a * b);
            }
        }
        int v = stack.get(0);
        return v < 0 ? 0 : v > 99 ? 99 : v;
    }

    // ---- an evening

    final class Night {
        final State state;
        final List<Person> people = new ArrayList<>();
        final List<Seat> seats = new ArrayList<>();

        Night(State state, int n, int banned) {
            this.state = state;
            for (int[] p : state.people) people.add(new Person(p[0], p[1], p[2]));
            for (int[] c : state.chairs) {
                Seat s = seat(c[0], c[1], seats.size());
                s.till = (state.bits & 1 << s.number) != 0 ? state.minutes : 0;
                s.banned = s.number == banned;
                seats.add(s);
            }
            for (int m = 0; m < n; m++) minute(m);
        }

        private void minute(int m) {
            for (Person p : people) {
                if (p.on == null || p.sat < p.wanted) continue;
                Seat s = p.on;
                int warm = says(state.law, 0, p.fat, s.more, p.sat, p.stood, m, s.number);
                s.till = m + Math.max(0, s.keeps(warm, p.sat));
                s.sitter = null;
                p.on = null;
                p.risen = m;
            }
            List<Person> queue = new ArrayList<>();
            Map<Person, Integer> firsts = new HashMap<>();
            for (int i = 0; i < people.size(); i++) {
                Person p = people.get(i);
                if (!wants(p, m)) continue;
                queue.add(p);
                firsts.put(p, says(state.law, 1, p.fat, 0, p.sat, p.stood, m, i));
            }
            queue.sort((a, b) -> Integer.compare(firsts.get(a), firsts.get(b)));
            for (Person p : queue) {
                List<Seat> free = new ArrayList<>();
                for (Seat s : seats) if (!s.banned && free(s, m)) free.add(s);
                if (state.style == 1) free.sort((a, b) -> Integer.compare(b.till, a.till));
                if (state.style == 2) free.sort((a, b) -> Integer.compare(a.till, b.till));
                if (free.isEmpty()) continue;
                p.on = free.get(0);
                p.satDown = p.on;
                p.on.sitter = p;
            }
            for (Person p : people) {
                if (p.on != null) p.sat++;
                else if (wants(p, m)) p.stood++;
            }
        }

        private boolean wants(Person p, int m) {
            return m >= p.from && p.on == null && p.risen < 0;
        }

        boolean warm(Seat s, int m) {
            boolean beside = false;
            for (Seat o : seats) if (Math.abs(o.number - s.number) == 1 && o.sitter != null) beside = true;
            return m < s.till || s.warmBy(beside);
        }

        boolean free(Seat s, int m) {
            return warm(s, m) && s.sitter == null && s.lets(m);
        }

        int risen() {
            int r = 0;
            for (Person p : people) if (p.risen >= 0) r++;
            return r;
        }

        int stood() {
            int r = 0;
            for (Person p : people) r += p.stood;
            return r;
        }

        boolean better(Night o) {
            return risen() != o.risen() ? risen() > o.risen() : stood() < o.stood();
        }

        int tells(int p, int n) {
            Person one = people.get(p);
            return one.risen >= 0 ? 3 : one.on != null ? 2 : one.from < n ? 1 : 0;
        }
    }

    private Night night(State s, int n) {
        return new Night(s, n, -1);
    }

    // ---- the calls

    private static boolean in(int v, int a, int b) {
        return a <= v && v <= b;
    }

    private static boolean wishFits(int what, int v) {
        return what == 0 ? in(v, 0, 29) : what == 1 ? in(v, 1, 9) : what == 2 && in(v, 0, 9);
    }

    private boolean person(int p) {
        return in(p, 0, now.people.size() - 1);
    }

    private boolean isSeat(int c) {
        return in(c, 0, now.chairs.size() - 1);
    }

    int one(int a, int b, int c) {
        if (!wishFits(0, a) || !wishFits(1, b) || !wishFits(2, c)) return BAD;
        if (now.people.size() == 5) return FULL;
        now.people.add(new int[] {a, b, c});
        return now.people.size() - 1;
    }

    int wish(int p, int what, int v) {
        if (!person(p)) return -5;
        if (!wishFits(what, v)) return -7;
        int was = now.people.get(p)[what];
        now.people.get(p)[what] = v;
        return was;
    }

    int oneTold(int p, int what) {
        return !person(p) ? -5 : !in(what, 0, 2) ? -7 : now.people.get(p)[what];
    }

    int house(int what, int v) {
        int was;
        switch (what) {
            case 0:
                if (!in(v, 0, 2)) return BAD;
                was = now.style;
                now.style = v;
                return was;
            case 1:
                if (!in(v, 0, 63)) return BAD;
                was = now.bits;
                now.bits = v;
                return was;
            case 2:
                if (!in(v, 0, 30)) return BAD;
                was = now.minutes;
                now.minutes = v;
                return was;
            default: return NONE;
        }
    }

    int count(int what) {
        int[] all = {now.style, now.bits, now.minutes, now.people.size(), now.chairs.size(), texts.size(), now.law,
            tape.length()};
        return in(what, 0, 7) ? all[what] : BAD;
    }

    int feed(int n, int... five) {
        if (!in(n, 1, 5)) return BAD;
        for (int b : five) if (!in(b, 0, 255)) return BAD;
        if (tape.length() + n > 160) return FULL;
        for (int k = 0; k < n; k++) tape.append((char) five[k]);
        return tape.length();
    }

    int text() {
        if (texts.size() == 6) return FULL;
        String text = tape.toString();
        tape.setLength(0);
        try {
            read(text);
        } catch (Fault f) {
            return -100 - f.place;
        }
        texts.add(text);
        return texts.size() - 1;
    }

    int force(int t) {
        if (!in(t, 0, texts.size() - 1)) return BAD;
        int was = now.law;
        now.law = t;
        return was;
    }

    int asks(int part, int fatMore, int satStood, int minute, int number) {
        if (!in(part, 0, 2) || !in(fatMore, 0, 99) || !in(satStood, 0, 999) || !in(minute, 0, 30) || !in(number, 0, 9)) {
            return BAD;
        }
        return says(now.law, part, fatMore / 10, fatMore % 10, satStood % 10, satStood / 10, minute, number);
    }

    int chair(int kind, int more) {
        if (!in(kind, 0, 5) || !in(more, 0, 9)) return BAD;
        if (now.chairs.size() == 6) return FULL;
        now.chairs.add(new int[] {kind, more});
        return now.chairs.size() - 1;
    }

    int mend(int c, int kind, int more) {
        if (!isSeat(c)) return -5;
        if (!in(kind, 0, 5) || !in(more, 0, 9)) return -7;
        return now.chairs.set(c, new int[] {kind, more})[0];
    }

    int chairTold(int c, int what) {
        return !isSeat(c) ? -5 : !in(what, 0, 1) ? -7 : now.chairs.get(c)[what];
    }

    int of(int n, int p, int what) {
        if (!in(n, 0, 30) || !person(p)) return -5;
        if (!in(what, 0, 4)) return -7;
        Person one = night(now, n).people.get(p);
        return new int[] {one.on == null ? -1 : one.on.number, one.sat, one.stood, one.risen,
            one.satDown == null ? -1 : one.satDown.number}[what];
    }

    int chairOf(int n, int c, int what) {
        if (!in(n, 0, 30) || !isSeat(c)) return -5;
        if (!in(what, 0, 2)) return -7;
        Night e = night(now, n);
        Seat s = e.seats.get(c);
        return new int[] {e.people.indexOf(s.sitter), Math.max(0, s.till - n), e.free(s, n) ? 1 : 0}[what];
    }

    int all(int n, int what) {
        if (!in(n, 0, 30)) return -5;
        if (!in(what, 0, 5)) return -7;
        Night e = night(now, n);
        int longest = -1, warm = 0, satOn = 0, costs = 0;
        for (int p = e.people.size() - 1; p >= 0; p--) {
            Person one = e.people.get(p);
            if (longest < 0 || one.stood >= e.people.get(longest).stood) longest = p;
            costs += says(now.law, 2, one.fat, 0, Math.min(9, one.sat), one.stood, 30, p);
        }
        for (Seat s : e.seats) {
            if (e.warm(s, n)) warm += 1 << s.number;
            if (s.sitter != null) satOn += 1 << s.number;
        }
        return new int[] {e.risen(), e.stood(), longest, warm, satOn, costs}[what];
    }

    int cold() {
        for (int n = 0; n <= 30; n++) {
            boolean cold = true;
            for (int k = n; k <= 30; k++) if (all(k, 3) != 0 || all(k, 4) != 0) cold = false;
            if (cold) return n;
        }
        return -1;
    }

    int begin(int what) {
        if (!in(what, 0, 1)) return BAD;
        for (int many = 0; many <= now.chairs.size(); many++) {
            for (int set = 0; set < 1 << now.chairs.size(); set++) {
                if (Integer.bitCount(set) != many) continue;
                State s = now.twin();
                s.bits = set;
                if (night(s, 30).risen() == now.people.size()) return what == 0 ? set : many;
            }
        }
        return -1;
    }

    int take(int what) {
        if (!in(what, 0, 2)) return BAD;
        Night best = null;
        for (int style = 0; style < 3; style++) {
            State s = now.twin();
            s.style = style;
            Night e = night(s, 30);
            if (best == null || e.better(best)) best = e;
        }
        return new int[] {best.state.style, best.risen(), best.stood()}[what];
    }

    private void rows(List<Integer> row, List<List<Integer>> all) {
        if (row.size() == now.people.size()) all.add(new ArrayList<>(row));
        for (int p = 0; p < now.people.size(); p++) {
            if (row.contains(p)) continue;
            row.add(p);
            rows(row, all);
            row.remove(row.size() - 1);
        }
    }

    private Night bestOrder(List<Integer> whose) {
        List<List<Integer>> all = new ArrayList<>();
        rows(new ArrayList<>(), all);
        Night best = null;
        for (List<Integer> row : all) {
            State s = now.twin();
            for (int p = 0; p < row.size(); p++) s.people.get(p)[0] = now.people.get(row.get(p))[0];
            Night e = night(s, 30);
            if (best != null && !e.better(best)) continue;
            best = e;
            whose.clear();
            whose.addAll(row);
        }
        return best;
    }

    int order(int what) {
        if (!in(what, 0, 2)) return BAD;
        List<Integer> whose = new ArrayList<>();
        Night best = bestOrder(whose);
        StringBuilder digits = new StringBuilder("0");
        for (int p : whose) digits.append(p);
        return new int[] {Integer.parseInt(digits.toString()), best.risen(), best.stood()}[what];
    }

    int invite() {
        Night best = bestOrder(new ArrayList<>());
        now = best.state;
        return best.risen();
    }

    int late(int p, int what) {
        if (!person(p)) return -5;
        if (!in(what, 0, 1)) return -7;
        for (int k = 0; k < 30; k++) {
            State s = now.twin();
            s.people.get(p)[0] = what == 0 ? 29 - k : k;
            if (night(s, 30).people.get(p).risen >= 0) return s.people.get(p)[0];
        }
        return -1;
    }

    int lent(int c, int what) {
        if (!isSeat(c) || !in(what, 0, 1)) return -100000;
        Night with = night(now, 30);
        Night without = new Night(now, 30, c);
        return what == 0 ? with.risen() - without.risen() : without.stood() - with.stood();
    }

    int move(int what) {
        if (!in(what, 0, 2)) return BAD;
        Night best = night(now, 30);
        int pair = -1;
        for (int code = 1; code < 60; code++) {
            int a = code / 10;
            int b = code % 10;
            if (a >= b || b >= now.chairs.size()) continue;
            State s = now.twin();
            java.util.Collections.swap(s.chairs, a, b);
            Night e = night(s, 30);
            if (!e.better(best)) continue;
            best = e;
            pair = code;
        }
        return new int[] {pair, best.risen(), best.stood()}[what];
    }

    int ever(int many, int keepers, int warm) {
        if (!in(many, 1, 20) || !in(keepers, 0, 20) || !in(warm, 0, 20)) return BAD;
        List<Integer> till = new ArrayList<>(java.util.Collections.nCopies(many, warm));
        for (int m = 0; m < 200; m++) {
            if (java.util.Collections.min(till) <= m) return m;
            for (int k = 0; k < keepers; k++) till.set(till.indexOf(java.util.Collections.min(till)), m + 1 + warm);
        }
        return -1;
    }

    int fewest(int many, int warm) {
        if (!in(many, 1, 20) || !in(warm, 0, 20)) return BAD;
        for (int k = 0; k <= 20; k++) if (ever(many, k, warm) == -1) return k;
        return -1;
    }

    private int size(int s) {
        return java.lang.reflect.Array.getLength(sheets[s]);
    }

    private int at(int s, int i) {
        return java.lang.reflect.Array.getInt(sheets[s], i);
    }

    private int sort(int s) {
        return sheets[s] instanceof byte[] ? 0 : sheets[s] instanceof short[] ? 1 : 2;
    }

    private int toldRefused(int s, int n) {
        if (!in(s, 0, 3)) return BAD;
        if (sheets[s] == null) return -11;
        if (size(s) != now.people.size()) return BAD;
        return in(n, 0, 30) ? 0 : -7;
    }

    private int otherwise(State state, int s, int n) {
        Night e = night(state, n);
        for (int p = 0; p < size(s); p++) if (at(s, p) != e.tells(p, n)) return p;
        return -1;
    }

    int judge(int s, int n) {
        int refused = toldRefused(s, n);
        return refused != 0 ? refused : otherwise(now, s, n);
    }

    long were(int s, int n) {
        if (toldRefused(s, n) != 0) return NO;
        long sets = 0;
        for (int set = 63; set >= 0; set--) {
            sets *= 2;
            if (set >= 1 << now.chairs.size()) continue;
            State t = now.twin();
            t.bits = set;
            if (otherwise(t, s, n) == -1) sets++;
        }
        return sets;
    }

    int laws(int s, int n) {
        int refused = toldRefused(s, n);
        if (refused != 0) return refused;
        int bits = 0;
        for (int t = 0; t < texts.size(); t++) {
            State u = now.twin();
            u.law = t;
            if (otherwise(u, s, n) == -1) bits += 1 << t;
        }
        return bits;
    }

    int film(int s, int n) {
        if (!in(s, 0, 3)) return BAD;
        if (!in(n, 0, 30)) return -7;
        Night e = night(now, n);
        int[] row = new int[e.people.size()];
        for (int p = 0; p < row.length; p++) row[p] = e.tells(p, n);
        sheets[s] = row;
        return row.length;
    }

    private int risenBy(int seed) {
        java.math.BigInteger lot = java.math.BigInteger.valueOf(seed + 1);
        State s = now.twin();
        s.bits = 0;
        for (int c = 0; c < s.chairs.size(); c++) {
            lot = lot.multiply(java.math.BigInteger.valueOf(48271)).mod(java.math.BigInteger.valueOf(2147483647));
            if (lot.testBit(0)) s.bits += 1 << c;
        }
        return night(s, 30).risen();
    }

    int drawn(int seed) {
        return in(seed, 0, 99999) ? risenBy(seed) : BAD;
    }

    long odds(int seed, int seeds, int n, int part) {
        if (!in(seed, 0, 99999) || !in(seeds, 1, 20) || !in(n, 0, 5) || !in(part, 0, 1)) return NO;
        int above = 0;
        for (int k = seed; k < seed + seeds; k++) if (risenBy(k) >= n) above++;
        int common = java.math.BigInteger.valueOf(above).gcd(java.math.BigInteger.valueOf(seeds)).intValue();
        return part == 0 ? above / common : seeds / common;
    }

    int image() {
        image = now.twin();
        return now.people.size();
    }

    int back() {
        if (image == null) return STATE;
        now = image.twin();
        return now.people.size();
    }

    int sheet(int s, int sort, int n) {
        if (!in(s, 0, 3) || !in(sort, -1, 2)) return BAD;
        if (sort == -1) {
            sheets[s] = null;
            return 1;
        }
        if (n > 40) return BAD;
        if (n < 0) return -14;
        sheets[s] = sort == 0 ? new byte[n] : sort == 1 ? (Object) new short[n] : new int[n];
        return 1;
    }

    private void set(int s, int i, int v) {
        if (sheets[s] instanceof byte[] b) b[i] = (byte) v;
        else if (sheets[s] instanceof short[] h) h[i] = (short) v;
        else ((int[]) sheets[s])[i] = v;
    }

    int cell(int s, int i, int v) {
        if (!in(s, 0, 3)) return BAD;
        if (sheets[s] == null) return -11;
        if (!in(i, 0, size(s) - 1)) return -12;
        set(s, i, v);
        return 1;
    }

    /** What the machine itself says of such a copy. */
    int copy(int s, int i, int other, int j, int n) {
        if (!in(s, 0, 3) || !in(other, 0, 3)) return BAD;
        try {
            System.arraycopy(sheets[s], i, sheets[other], j, n);
            return n;
        } catch (NullPointerException e) {
            return -11;
        } catch (ArrayStoreException e) {
            return -13;
        } catch (IndexOutOfBoundsException e) {
            return -12;
        }
    }

    int onesBy(int s, int sort, int at, int n) {
        if (!in(s, 0, 3) || !in(sort, 0, 2) || !in(n, 0, 5)) return BAD;
        if (sheets[s] == null) return -11;
        if (sort(s) != sort) return -13;
        int came = 0;
        int place = at;
        for (int k = 0; k < n; k++) {
            int[] three = new int[3];
            for (int i = 0; i < 3; i++) {
                if (!in(place, 0, size(s) - 1)) return -12;
                three[i] = at(s, place++);
            }
            if (one(three[0], three[1], three[2]) >= 0) came++;
        }
        return came;
    }

    int taken(int i, int kind) {
        if (!in(kind, 0, 6)) return BAD;
        if (!in(i, 0, 10)) return -12;
        if (i < 5) {
            if (i >= now.people.size()) return -11;
            return kind == 6 ? now.people.get(i)[1] : -13;
        }
        if (i - 5 >= now.chairs.size()) return -11;
        if (kind == 6) return -13;
        Class<?> wanted = seat(kind, 0, 0).getClass();
        return wanted.isInstance(seat(now.chairs.get(i - 5)[0], 0, 0)) ? i - 5 : -13;
    }
}
