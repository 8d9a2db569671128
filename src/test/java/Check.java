/** Counts the answers that are not as due, and ends the test by it. */
final class Check {
    private static int wrong = 0;
    private static int asked = 0;
    private static String test = "";

    private Check() { }

    /** What is asked from now on belongs to a test of this name. */
    static void named(String name) {
        test = name + ": ";
    }

    static void due(String call, long got, long want) {
        asked++;
        if (got == want) return;
        wrong++;
        if (wrong <= 50) System.out.println(test + call + " answered " + got + ", due is " + want);
    }

    static void holds(String what, boolean is) {
        due(what, is ? 1 : 0, 1);
    }

    /** Feeds a text's bytes to the tape, five by five at most. */
    static void feed(WarmChairs x, String text) {
        int[] five = new int[5];
        for (int at = 0; at < text.length(); at += 5) {
            int n = Math.min(5, text.length() - at);
            for (int k = 0; k < 5; k++) five[k] = k < n ? text.charAt(at + k) : 0;
            int has = x.count(7);
            due("feed(" + text.substring(at, at + n) + ")",
                x.feed(n, five[0], five[1], five[2], five[3], five[4]), has + n);
        }
    }

    static int text(WarmChairs x, String text) {
        feed(x, text);
        return x.text();
    }

    /** A text becomes the law. */
    static void law(WarmChairs x, String text) {
        int t = text(x, text);
        holds("is a text: " + text, t > 0);
        x.force(t);
    }

    static void end() {
        System.out.println(asked + " answers, " + wrong + " not as due");
        if (wrong != 0) System.exit(1);
    }
}
