import java.util.Random;

/** Many runs of calls, by chance but always the same, compared with the model's answers. */
public final class ModelTest {
    private static final int[] ODD = {-1, -2, 0, 1, 2, 3, 4, 5, 6, 7, 9, 10, 11, 20, 21, 29, 30, 31, 40, 41, 63, 64, 99,
        100, 255, 256, 999, 1000, 99999, 100000, Integer.MIN_VALUE, Integer.MAX_VALUE};
    private static Random dice;
    private static WarmChairs x;
    private static Model y;

    public static void main(String[] args) {
        for (int run = 0; run < 700; run++) runOf(run);
        for (int run = 0; run < 200; run++) textsOf(run);
        Check.end();
    }

    private static void runOf(int run) {
        dice = new Random(run);
        x = new WarmChairs();
        y = new Model();
        if (run % 4 != 0) settle();
        for (int call = 0; call < 120; call++) anyCall(dice.nextInt(38), run % 3 == 0 ? 4 : 30, "run " + run + ", ");
    }

    /** A house that is worth looking at. */
    private static void settle() {
        int people = 1 + dice.nextInt(5);
        int chairs = 1 + dice.nextInt(6);
        boolean early = dice.nextBoolean();
        for (int p = 0; p < people; p++) {
            int a = dice.nextInt(early ? 6 : 30);
            int b = 1 + dice.nextInt(9);
            int c = dice.nextInt(10);
            Check.due("one", x.one(a, b, c), y.one(a, b, c));
        }
        for (int k = 0; k < chairs; k++) {
            int a = dice.nextInt(6);
            int b = dice.nextInt(10);
            Check.due("chair", x.chair(a, b), y.chair(a, b));
        }
        int[] v = {dice.nextInt(3), dice.nextInt(64), dice.nextInt(31)};
        for (int w = 0; w < 3; w++) Check.due("house", x.house(w, v[w]), y.house(w, v[w]));
        if (dice.nextBoolean()) newText(aText());
        if (dice.nextBoolean()) newText(aText());
        int t = dice.nextInt(3);
        Check.due("force", x.force(t), y.force(t));
    }

    /** A number below n, or, one time in so many, any odd one. */
    private static int v(int n, int seldom) {
        return dice.nextInt(seldom) == 0 ? ODD[dice.nextInt(ODD.length)] : dice.nextInt(n);
    }

    private static void anyCall(int k, int odd, String at) {
        int p = v(5, odd), c = v(6, odd), n = v(31, odd), w = v(3, odd), s = v(4, odd * 2);
        int a = v(10, odd), b = v(10, odd);
        String call = at + "call " + k + ": ";
        switch (k) {
            case 0: { int f = v(30, odd); Check.due(call + "one", x.one(f, a, b), y.one(f, a, b)); break; }
            case 1: Check.due(call + "wish", x.wish(p, w, a), y.wish(p, w, a)); break;
            case 2: Check.due(call + "oneTold", x.oneTold(p, w), y.oneTold(p, w)); break;
            case 3: { int h = v(w == 0 ? 3 : w == 1 ? 64 : 31, odd); Check.due(call + "house", x.house(w, h), y.house(w, h)); break; }
            case 4: { int h = v(8, odd); Check.due(call + "count", x.count(h), y.count(h)); break; }
            case 5: feeds(call, odd); break;
            case 6: Check.due(call + "text", x.text(), y.text()); break;
            case 7: { int t = v(y.texts.size(), odd); Check.due(call + "force", x.force(t), y.force(t)); break; }
            case 8: { int f = v(100, odd), g = v(1000, odd); Check.due(call + "asks", x.asks(w, f, g, n, a), y.asks(w, f, g, n, a)); break; }
            case 9: Check.due(call + "chair", x.chair(c, a), y.chair(c, a)); break;
            case 10: { int d = v(6, odd); Check.due(call + "mend", x.mend(c, d, a), y.mend(c, d, a)); break; }
            case 11: { int d = v(2, odd); Check.due(call + "chairTold", x.chairTold(c, d), y.chairTold(c, d)); break; }
            case 12: { int d = v(5, odd); Check.due(call + "of", x.of(n, p, d), y.of(n, p, d)); break; }
            case 13: Check.due(call + "chairOf", x.chairOf(n, c, w), y.chairOf(n, c, w)); break;
            case 14: { int d = v(6, odd); Check.due(call + "all", x.all(n, d), y.all(n, d)); break; }
            case 15: Check.due(call + "cold", x.cold(), y.cold()); break;
            case 16: { int d = v(2, odd); Check.due(call + "begin", x.begin(d), y.begin(d)); break; }
            case 17: Check.due(call + "take", x.take(w), y.take(w)); break;
            case 18: Check.due(call + "order", x.order(w), y.order(w)); break;
            case 19: Check.due(call + "invite", x.invite(), y.invite()); break;
            default: laterCall(k, odd, call);
        }
    }

    private static void laterCall(int k, int odd, String call) {
        int p = v(5, odd), c = v(6, odd), n = v(31, odd), w = v(3, odd), d = v(2, odd), s = v(4, odd * 2);
        int a = v(10, odd), b = v(10, odd), m = v(6, odd), seed = v(100000, odd);
        switch (k) {
            case 20: Check.due(call + "late", x.late(p, d), y.late(p, d)); break;
            case 21: Check.due(call + "lent", x.lent(c, d), y.lent(c, d)); break;
            case 22: Check.due(call + "move", x.move(w), y.move(w)); break;
            case 23: { int e = v(21, odd), f = v(21, odd), g = v(21, odd); Check.due(call + "ever", x.ever(e, f, g), y.ever(e, f, g)); break; }
            case 24: { int e = v(21, odd), f = v(21, odd); Check.due(call + "fewest", x.fewest(e, f), y.fewest(e, f)); break; }
            case 25: film(call, s, n); Check.due(call + "judge", x.judge(s, n), y.judge(s, n)); break;
            case 26: film(call, s, n); Check.due(call + "were", x.were(s, n), y.were(s, n)); break;
            case 27: film(call, s, n); Check.due(call + "laws", x.laws(s, n), y.laws(s, n)); break;
            case 28: film(call, s, n); break;
            case 29: Check.due(call + "drawn", x.drawn(seed), y.drawn(seed)); break;
            case 30: { int e = 1 + v(20, odd); Check.due(call + "odds", x.odds(seed, e, m, d), y.odds(seed, e, m, d)); break; }
            case 31: Check.due(call + "image", x.image(), y.image()); break;
            case 32: Check.due(call + "back", x.back(), y.back()); break;
            case 33: { int e = v(4, odd) - 1, f = v(12, odd); Check.due(call + "sheet", x.sheet(s, e, f), y.sheet(s, e, f)); break; }
            case 34: { int e = v(12, odd); Check.due(call + "cell", x.cell(s, e, a), y.cell(s, e, a)); break; }
            case 35: { int o = v(4, odd); Check.due(call + "copy", x.copy(s, a, o, b, m), y.copy(s, a, o, b, m)); break; }
            case 36: Check.due(call + "onesBy", x.onesBy(s, w, a, m), y.onesBy(s, w, a, m)); break;
            default: { int e = v(11, odd), f = v(7, odd); Check.due(call + "taken", x.taken(e, f), y.taken(e, f)); }
        }
    }

    /** Mostly a told evening, sometimes with a cell that is otherwise. */
    private static void film(String call, int s, int n) {
        if (dice.nextInt(6) == 0) return;
        Check.due(call + "film", x.film(s, n), y.film(s, n));
        if (dice.nextInt(3) != 0) return;
        int i = dice.nextInt(5);
        int v = dice.nextInt(4);
        Check.due(call + "cell", x.cell(s, i, v), y.cell(s, i, v));
    }

    private static void feeds(String call, int odd) {
        if (dice.nextBoolean()) {
            newText(aText());
            return;
        }
        int n = v(5, odd) + 1;
        int[] f = new int[5];
        for (int k = 0; k < 5; k++) f[k] = v(256, odd * 4);
        Check.due(call + "feed", x.feed(n, f[0], f[1], f[2], f[3], f[4]), y.feed(n, f[0], f[1], f[2], f[3], f[4]));
    }

    // ---- texts

    private static void textsOf(int run) {
        dice = new Random(-1 - run);
        for (int k = 0; k < 150; k++) {
            if (k % 20 == 0) {
                x = new WarmChairs();
                y = new Model();
            }
            String text = aText();
            for (int spoil = dice.nextInt(4); spoil > 0; spoil--) text = spoilt(text);
            newText(text);
            Check.due("force", x.force(y.texts.size() - 1), y.force(y.texts.size() - 1));
            for (int part = 0; part < 3; part++) {
                int a = dice.nextInt(100), b = dice.nextInt(1000), m = dice.nextInt(31), n = dice.nextInt(10);
                Check.due("asks of " + text, x.asks(part, a, b, m, n), y.asks(part, a, b, m, n));
            }
        }
    }

    private static void newText(String text) {
        for (int at = 0; at < text.length(); at += 5) {
            int n = Math.min(5, text.length() - at);
            int[] f = new int[5];
            for (int k = 0; k < n; k++) f[k] = text.charAt(at + k);
            Check.due("feed", x.feed(n, f[0], f[1], f[2], f[3], f[4]), y.feed(n, f[0], f[1], f[2], f[3], f[4]));
        }
        Check.due("text " + text, x.text(), y.text());
    }

    private static String aText() {
        return "warm " + e(3) + ";" + gap() + "first " + e(3) + gap() + ";costs " + e(2) + gap() + ";" + gap();
    }

    private static String gap() {
        return dice.nextInt(3) == 0 ? "\n " : dice.nextInt(3) == 0 ? "" : " ";
    }

    /** An expression, of any kind of signs, which may be open too deep. */
    private static String e(int depth) {
        String[] signs = {"+", "-", "*", "<", "=", " and ", " or ", "+", "-", "*"};
        switch (depth <= 0 ? dice.nextInt(2) : dice.nextInt(9)) {
            case 0: return Model.NAMES.get(dice.nextInt(6));
            case 1: return String.valueOf(dice.nextInt(dice.nextInt(4) == 0 ? 10000 : 12));
            case 2: return "(" + gap() + e(depth - 1) + gap() + ")";
            case 3: return "-" + gap() + e(depth - 1);
            case 4: return "not " + e(depth - 1);
            default: return e(depth - 1) + signs[dice.nextInt(signs.length)] + gap() + e(depth - 1);
        }
    }

    private static String spoilt(String text) {
        String[] bits = {"(", ")", "-", "not ", "((((", "))))", "- - -", "not not ", "12345", "warm", "x", "\t", ";", "<", "$", " or ",
            " and ", "*", "+", "=", "fat", "7", "A", " ", "\n"};
        int at = dice.nextInt(text.length() + 1);
        switch (dice.nextInt(4)) {
            case 0: return text.substring(0, at);
            case 1: return at < text.length() ? text.substring(0, at) + text.substring(at + 1) : text;
            case 2: return text.substring(0, at) + bits[dice.nextInt(bits.length)] + text.substring(at);
            default: {
                int to = dice.nextInt(text.length() + 1);
                int a = Math.min(at, to), b = Math.max(at, to);
                return b - a > 40 ? text : text.substring(0, a) + text.substring(b);
            }
        }
    }
}
