import java.lang.reflect.InvocationTargetException;
import java.lang.reflect.Method;
import java.util.ArrayList;
import java.util.Arrays;
import java.util.Comparator;
import java.util.List;

/**
 * What the tests of edges share. Each such test is a static method that is called by the promise's
 * number and the case: p02_the_sixth_is_full.
 */
final class Edges {
    static final int MIN = Integer.MIN_VALUE, MAX = Integer.MAX_VALUE;

    interface Calls { void on(WarmChairs x); }
    interface Asked { long of(WarmChairs x); }
    interface AskedBy { long of(WarmChairs x, int v); }

    private Edges() { }

    /** Runs a class's tests by their names, and counts them for each promise. */
    static void run(Class<?> tests, int[] perPromise) {
        Method[] all = tests.getDeclaredMethods();
        Arrays.sort(all, Comparator.comparing(Method::getName));
        for (Method m : all) {
            if (!m.getName().matches("p\\d\\d_\\w+")) continue;
            perPromise[Integer.parseInt(m.getName().substring(1, 3))]++;
            Check.named(m.getName());
            try {
                m.invoke(null);
            } catch (InvocationTargetException thrown) {
                Check.holds("threw " + thrown.getCause(), false);
            } catch (IllegalAccessException hidden) {
                Check.holds("can't be called", false);
            }
        }
    }

    static WarmChairs made(Calls calls) {
        WarmChairs x = new WarmChairs();
        calls.on(x);
        return x;
    }

    // ---- houses to ask of

    /** Nothing but what a new object has. */
    static void empty(WarmChairs x) { }

    /** Three people, three chairs, three texts, sheets of all sorts, a tape, and an image that is otherwise. */
    static void rich(WarmChairs x) {
        x.one(4, 2, 1);
        x.chair(1, 3);
        settings(x, 2, 5, 12);
        x.image();
        x.wish(0, 0, 1);
        x.one(0, 3, 5);
        x.one(2, 4, 0);
        x.mend(0, 3, 6);
        x.chair(0, 0);
        x.chair(5, 7);
        settings(x, 1, 3, 8);
        Check.text(x, "warm 7 ; first fat ; costs 2 ;");
        Check.text(x, "warm 4 ; first 9 - fat ; costs sat ;");
        x.force(2);
        row(x, 0, 2, 3, 2, 1);
        row(x, 1, 0, 9, 8, 7, 6);
        row(x, 2, 1, 1, 1, 1);
        Check.feed(x, "warm");
    }

    /** As many of all as there can be. */
    static void full(WarmChairs x) {
        for (int p = 0; p < 5; p++) x.one(p, 9 - p, p);
        for (int c = 0; c < 6; c++) x.chair(c, 9 - c);
        settings(x, 2, 63, 30);
        for (int t = 1; t < 6; t++) Check.text(x, "warm " + t + ";first 0;costs 1;");
        x.force(5);
        for (int k = 0; k < 32; k++) x.feed(5, 36, 36, 36, 36, 36);
        for (int s = 0; s < 4; s++) x.sheet(s, s % 3, 40);
        x.image();
    }

    static void settings(WarmChairs x, int style, int bits, int minutes) {
        x.house(0, style);
        x.house(1, bits);
        x.house(2, minutes);
    }

    static void row(WarmChairs x, int s, int sort, int... cells) {
        x.sheet(s, sort, cells.length);
        for (int i = 0; i < cells.length; i++) x.cell(s, i, cells[i]);
    }

    static void people(WarmChairs x, int n) {
        for (int p = 0; p < n; p++) x.one(0, 1, 0);
    }

    static void chairs(WarmChairs x, int n) {
        for (int c = 0; c < n; c++) x.chair(0, 0);
    }

    // ---- what is asked of a call

    /** It answers so, and all is as it is without the call. */
    static void keeps(String call, Calls before, Asked asked, long due) {
        WarmChairs with = made(before);
        Check.due(call, asked.of(with), due);
        List<String> is = seen(with);
        List<String> was = seen(made(before));
        int at = 0;
        while (at < is.size() && at < was.size() && is.get(at).equals(was.get(at))) at++;
        boolean same = at == is.size() && at == was.size();
        Check.holds(call + " changes nothing" + (same ? "" : " (" + (at < is.size() ? is.get(at) : "missing") + ")"), same);
    }

    /** Least and most are taken; what is below and above is refused so, and changes nothing. */
    static void ends(Calls before, AskedBy asked, int least, int most, long refusal) {
        for (int v : new int[] {least, most}) {
            long got = asked.of(made(before), v);
            Check.holds(v + " is taken (answered " + got + ")", got != refusal);
        }
        for (int v : new int[] {MIN, least - 1, most + 1, MAX}) {
            keeps("by " + v, before, x -> asked.of(x, v), refusal);
        }
    }

    // ---- all that can be seen

    /** Answers that tell all that an object keeps; asking so changes it. */
    private static List<String> seen(WarmChairs x) {
        List<String> seen = new ArrayList<>();
        seenHouse(x, seen);
        for (int s = 0; s < 4; s++) seen.add("sheet " + s + ": " + sort(x, s) + " " + size(x, s));
        seen.add("text() " + x.text());
        for (int t = 0; t < 6; t++) {
            seen.add("force(" + t + ") " + x.force(t));
            for (int part = 0; part < 3; part++) seen.add("asks " + x.asks(part, 34, 675, 28, 9));
        }
        seen.add("back() " + x.back());
        seenHouse(x, seen);
        seenCells(x, seen);
        return seen;
    }

    private static void seenHouse(WarmChairs x, List<String> seen) {
        for (int w = 0; w < 8; w++) seen.add("count(" + w + ") " + x.count(w));
        for (int p = 0; p < x.count(3); p++) {
            for (int w = 0; w < 3; w++) seen.add("oneTold(" + p + ", " + w + ") " + x.oneTold(p, w));
        }
        for (int c = 0; c < x.count(4); c++) {
            for (int w = 0; w < 2; w++) seen.add("chairTold(" + c + ", " + w + ") " + x.chairTold(c, w));
        }
        for (int w = 0; w < 6; w++) seen.add("all(30, " + w + ") " + x.all(30, w));
    }

    /** The sort of a sheet; -1: it is missing. */
    static int sort(WarmChairs x, int s) {
        for (int sort = 0; sort < 3; sort++) {
            if (x.onesBy(s, sort, 0, 0) == 0) return sort;
        }
        return -1;
    }

    /** The size of a sheet; -1: it is missing. */
    static int size(WarmChairs x, int s) {
        int size = -1;
        for (int step = 32; step > 0; step /= 2) {
            if (x.copy(s, size + step, s, 0, 0) == 0) size += step;
        }
        return size;
    }

    /** The first cells, by one who comes from each; a missing sheet, or else the last, is written over. */
    private static void seenCells(WarmChairs x, List<String> seen) {
        if (x.count(3) == 5) return;
        int spare = 3;
        for (int s = 0; s < 4; s++) if (sort(x, s) < 0) spare = s;
        x.image();
        for (int s = 0; s < 4; s++) {
            int sort = sort(x, s);
            if (s == spare || sort < 0) continue;
            row(x, spare, sort, 0, 1, 0);
            for (int i = 0; i < 7 && x.copy(s, i, spare, 0, 1) == 1; i++) {
                int came = x.onesBy(spare, sort, 0, 1);
                seen.add("cell " + i + " of " + s + ": " + (came == 1 ? x.oneTold(x.count(3) - 1, 0) : -1));
                x.back();
            }
        }
    }
}
