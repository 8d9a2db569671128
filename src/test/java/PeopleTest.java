/** Promises 1 to 6: a new object, one, wish, oneTold, house, count. */
public final class PeopleTest {
    public static void main(String[] args) {
        aNewObject();
        one();
        wish();
        oneTold();
        house();
        count();
        Check.end();
    }

    private static void aNewObject() {
        WarmChairs x = new WarmChairs();
        Check.due("new: style", x.count(0), 0);
        Check.due("new: warm at first", x.count(1), 1);
        Check.due("new: for how many minutes", x.count(2), 9);
        Check.due("new: people", x.count(3), 0);
        Check.due("new: chairs", x.count(4), 0);
        Check.due("new: texts", x.count(5), 1);
        Check.due("new: the law", x.count(6), 0);
        Check.due("new: the tape", x.count(7), 0);
        Check.due("new: no image", x.back(), WarmChairs.STATE);
        for (int s = 0; s < 4; s++) Check.due("new: sheet " + s + " is missing", x.cell(s, 0, 0), -11);
        new WarmChairs().one(0, 1, 0);
        Check.due("objects are apart", x.count(3), 0);
    }

    private static void one() {
        WarmChairs x = new WarmChairs();
        int[][] bad = {{-1, 1, 0}, {30, 1, 0}, {0, 0, 0}, {0, 10, 0}, {0, 1, -1}, {0, 1, 10},
            {Integer.MIN_VALUE, 1, 0}, {0, Integer.MAX_VALUE, 0}, {0, 1, Integer.MAX_VALUE}};
        for (int[] b : bad) Check.due("one() that is bad", x.one(b[0], b[1], b[2]), WarmChairs.BAD);
        Check.due("nobody came", x.count(3), 0);
        Check.due("one(0, 1, 0)", x.one(0, 1, 0), 0);
        Check.due("one(29, 9, 9)", x.one(29, 9, 9), 1);
        Check.due("one(5, 3, 7)", x.one(5, 3, 7), 2);
        Check.due("one(6, 4, 8)", x.one(6, 4, 8), 3);
        Check.due("one(7, 5, 6)", x.one(7, 5, 6), 4);
        Check.due("a sixth", x.one(7, 5, 6), WarmChairs.FULL);
        Check.due("a sixth that is bad", x.one(30, 5, 6), WarmChairs.BAD);
        Check.due("five", x.count(3), 5);
        int[][] due = {{0, 1, 0}, {29, 9, 9}, {5, 3, 7}, {6, 4, 8}, {7, 5, 6}};
        for (int p = 0; p < 5; p++) {
            for (int w = 0; w < 3; w++) Check.due("oneTold(" + p + ", " + w + ")", x.oneTold(p, w), due[p][w]);
        }
    }

    private static void wish() {
        WarmChairs x = new WarmChairs();
        Check.due("wish() of nobody", x.wish(0, 0, 0), -5);
        x.one(3, 4, 5);
        x.one(6, 7, 8);
        Check.due("wish(2, 0, 0)", x.wish(2, 0, 0), -5);
        Check.due("wish(-1, 9, 99)", x.wish(-1, 9, 99), -5);
        Check.due("wish(0, 3, 1)", x.wish(0, 3, 1), -7);
        Check.due("wish(0, -1, 1)", x.wish(0, -1, 1), -7);
        Check.due("wish(0, 0, 30)", x.wish(0, 0, 30), -7);
        Check.due("wish(0, 0, -1)", x.wish(0, 0, -1), -7);
        Check.due("wish(0, 1, 0)", x.wish(0, 1, 0), -7);
        Check.due("wish(0, 1, 10)", x.wish(0, 1, 10), -7);
        Check.due("wish(0, 2, -1)", x.wish(0, 2, -1), -7);
        Check.due("wish(0, 2, 10)", x.wish(0, 2, 10), -7);
        for (int w = 0; w < 3; w++) Check.due("nothing changed", x.oneTold(0, w), 3 + w);
        Check.due("wish(0, 0, 29)", x.wish(0, 0, 29), 3);
        Check.due("wish(0, 1, 9)", x.wish(0, 1, 9), 4);
        Check.due("wish(0, 2, 0)", x.wish(0, 2, 0), 5);
        Check.due("wish(0, 0, 0)", x.wish(0, 0, 0), 29);
        Check.due("wish(0, 1, 1)", x.wish(0, 1, 1), 9);
        Check.due("wish(0, 2, 9)", x.wish(0, 2, 9), 0);
        for (int w = 0; w < 3; w++) Check.due("the other is as was", x.oneTold(1, w), 6 + w);
    }

    private static void oneTold() {
        WarmChairs x = new WarmChairs();
        Check.due("oneTold() of nobody", x.oneTold(0, 0), -5);
        x.one(3, 4, 5);
        Check.due("oneTold(0, 0)", x.oneTold(0, 0), 3);
        Check.due("oneTold(0, 1)", x.oneTold(0, 1), 4);
        Check.due("oneTold(0, 2)", x.oneTold(0, 2), 5);
        Check.due("oneTold(0, 3)", x.oneTold(0, 3), -7);
        Check.due("oneTold(0, -1)", x.oneTold(0, -1), -7);
        Check.due("oneTold(1, 3)", x.oneTold(1, 3), -5);
        Check.due("oneTold(-1, 0)", x.oneTold(-1, 0), -5);
    }

    private static void house() {
        WarmChairs x = new WarmChairs();
        Check.due("house(3, 0)", x.house(3, 0), WarmChairs.NONE);
        Check.due("house(-1, -1)", x.house(-1, -1), WarmChairs.NONE);
        Check.due("house(0, 3)", x.house(0, 3), WarmChairs.BAD);
        Check.due("house(0, -1)", x.house(0, -1), WarmChairs.BAD);
        Check.due("house(1, 64)", x.house(1, 64), WarmChairs.BAD);
        Check.due("house(1, -1)", x.house(1, -1), WarmChairs.BAD);
        Check.due("house(2, 31)", x.house(2, 31), WarmChairs.BAD);
        Check.due("house(2, -1)", x.house(2, -1), WarmChairs.BAD);
        Check.due("house(0, 2)", x.house(0, 2), 0);
        Check.due("house(0, 1)", x.house(0, 1), 2);
        Check.due("house(1, 63)", x.house(1, 63), 1);
        Check.due("house(1, 0)", x.house(1, 0), 63);
        Check.due("house(2, 30)", x.house(2, 30), 9);
        Check.due("house(2, 0)", x.house(2, 0), 30);
        Check.due("style", x.count(0), 1);
        Check.due("warm at first", x.count(1), 0);
        Check.due("for how many minutes", x.count(2), 0);
    }

    private static void count() {
        WarmChairs x = new WarmChairs();
        x.house(0, 2);
        x.house(1, 5);
        x.house(2, 17);
        x.one(0, 1, 0);
        x.one(0, 1, 0);
        x.one(0, 1, 0);
        x.chair(0, 0);
        x.chair(0, 0);
        Check.law(x, "warm 1 ; first 2 ; costs 3 ;");
        Check.feed(x, "abcdefg");
        int[] due = {2, 5, 17, 3, 2, 2, 1, 7};
        for (int w = 0; w < 8; w++) Check.due("count(" + w + ")", x.count(w), due[w]);
        Check.due("count(8)", x.count(8), WarmChairs.BAD);
        Check.due("count(-1)", x.count(-1), WarmChairs.BAD);
    }
}
