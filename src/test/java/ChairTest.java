/** Promises 11 to 13: chair, mend, chairTold; and what each kind does in an evening. */
public final class ChairTest {
    public static void main(String[] args) {
        chair();
        mend();
        chairTold();
        keeps();
        stove();
        stool();
        bench();
        Check.end();
    }

    private static void chair() {
        WarmChairs x = new WarmChairs();
        Check.due("chair(-1, 0)", x.chair(-1, 0), WarmChairs.BAD);
        Check.due("chair(6, 0)", x.chair(6, 0), WarmChairs.BAD);
        Check.due("chair(0, -1)", x.chair(0, -1), WarmChairs.BAD);
        Check.due("chair(0, 10)", x.chair(0, 10), WarmChairs.BAD);
        Check.due("none came", x.count(4), 0);
        for (int c = 0; c < 6; c++) Check.due("chair " + c, x.chair(c, 9 - c), c);
        Check.due("a seventh", x.chair(0, 0), WarmChairs.FULL);
        Check.due("a seventh that is bad", x.chair(0, 10), WarmChairs.BAD);
        Check.due("six", x.count(4), 6);
        for (int c = 0; c < 6; c++) {
            Check.due("its kind", x.chairTold(c, 0), c);
            Check.due("its more", x.chairTold(c, 1), 9 - c);
        }
    }

    private static void mend() {
        WarmChairs x = new WarmChairs();
        Check.due("mend() of none", x.mend(0, 0, 0), -5);
        x.chair(4, 3);
        x.chair(2, 1);
        Check.due("mend(2, 0, 0)", x.mend(2, 0, 0), -5);
        Check.due("mend(-1, 6, 0)", x.mend(-1, 6, 0), -5);
        Check.due("mend(0, 6, 0)", x.mend(0, 6, 0), -7);
        Check.due("mend(0, -1, 0)", x.mend(0, -1, 0), -7);
        Check.due("mend(0, 0, 10)", x.mend(0, 0, 10), -7);
        Check.due("mend(0, 0, -1)", x.mend(0, 0, -1), -7);
        Check.due("nothing changed", x.chairTold(0, 0) * 10 + x.chairTold(0, 1), 43);
        Check.due("mend(0, 5, 9)", x.mend(0, 5, 9), 4);
        Check.due("mend(0, 0, 0)", x.mend(0, 0, 0), 5);
        Check.due("mend(0, 3, 7)", x.mend(0, 3, 7), 0);
        Check.due("it is so", x.chairTold(0, 0) * 10 + x.chairTold(0, 1), 37);
        Check.due("the other is as was", x.chairTold(1, 0) * 10 + x.chairTold(1, 1), 21);
    }

    private static void chairTold() {
        WarmChairs x = new WarmChairs();
        Check.due("chairTold() of none", x.chairTold(0, 0), -5);
        x.chair(5, 8);
        Check.due("kind", x.chairTold(0, 0), 5);
        Check.due("more", x.chairTold(0, 1), 8);
        Check.due("what 2", x.chairTold(0, 2), -7);
        Check.due("what -1", x.chairTold(0, -1), -7);
        Check.due("no such chair", x.chairTold(1, 2), -5);
        Check.due("no such chair", x.chairTold(-1, 0), -5);
    }

    /** One sits from minute 0 on, so long, on a chair of a kind: how long it keeps warm. */
    private static void keeps(int kind, int more, String warm, int sat, int due) {
        WarmChairs x = new WarmChairs();
        x.chair(kind, more);
        x.one(0, sat, 0);
        Check.law(x, "warm " + warm + " ; first 0 ; costs 0 ;");
        Check.due("it has risen", x.of(sat + 1, 0, 3), sat);
        Check.due("kind " + kind + " more " + more + " warm " + warm + " sat " + sat,
            x.chairOf(sat + 1, 0, 1), Math.max(0, due - 1));
    }

    private static void keeps() {
        keeps(0, 9, "7", 2, 7);
        keeps(1, 9, "7", 2, 16);
        keeps(1, 0, "7", 2, 7);
        keeps(2, 9, "7", 2, 3);
        keeps(2, 9, "8", 2, 4);
        keeps(2, 9, "1", 2, 0);
        keeps(3, 9, "7", 2, 16);
        keeps(4, 2, "7", 2, 6);
        keeps(4, 2, "8", 2, 8);
        keeps(4, 3, "8", 2, 0);
        keeps(4, 3, "8", 3, 8);
        keeps(4, 0, "9", 1, 8);
        keeps(5, 9, "7", 2, 7);
        keeps(0, 0, "0 - 5", 2, 0);
        keeps(1, 9, "0 - 5", 2, 9);
        keeps(0, 0, "500", 2, 99);
        keeps(1, 9, "99", 2, 108);
        keeps(2, 0, "99", 2, 49);
    }

    private static void stove() {
        WarmChairs x = new WarmChairs();
        x.chair(3, 4);
        x.house(1, 0);
        for (int n = 0; n <= 30; n++) {
            Check.due("a stove is always warm", x.all(n, 3), 1);
            Check.due("it lets below more", x.chairOf(n, 0, 2), n < 4 ? 1 : 0);
            Check.due("till is 0", x.chairOf(n, 0, 1), 0);
        }
        x.one(4, 1, 0);
        Check.due("too late", x.all(30, 0), 0);
        x.wish(0, 0, 3);
        Check.due("not too late", x.all(30, 0), 1);
        x.mend(0, 3, 0);
        Check.due("it never lets", x.chairOf(0, 0, 2), 0);
        x.house(1, 1);
        Check.due("nor if it is warm at first", x.all(30, 0), 0);
    }

    private static void stool() {
        WarmChairs x = new WarmChairs();
        x.chair(4, 5);
        Check.due("warm at first", x.chairOf(8, 0, 2), 1);
        Check.due("cold behind", x.chairOf(9, 0, 2), 0);
        x.one(0, 4, 9);
        x.one(0, 1, 0);
        // One 0 sat 4, less than 5: the stool is cold at once.
        Check.due("who rises", x.all(30, 0), 1);
        x.wish(0, 1, 5);
        // 12 minutes, and 12 of them by twice the half.
        Check.due("who rises", x.all(30, 0), 2);
        Check.due("when", x.of(30, 1, 3), 6);
    }

    private static void bench() {
        WarmChairs x = new WarmChairs();
        x.chair(5, 0);
        x.chair(5, 0);
        x.chair(0, 0);
        x.chair(5, 0);
        x.chair(5, 0);
        x.house(1, 4);
        for (int p = 0; p < 5; p++) x.one(0, 9, 0);
        // 2 is warm; then 1 beside it; then 0 beside 1; then 3, then 4.
        int[] due = {2, 1, 0, 3, 4};
        for (int p = 0; p < 5; p++) Check.due("who sits where", x.of(1, p, 0), due[p]);
        Check.due("all are warm by then", x.all(1, 3), 31);
        Check.due("all are sat on", x.all(1, 4), 31);
        x.house(1, 0);
        Check.due("none is warm", x.all(0, 3), 0);
        Check.due("none sits", x.all(1, 4), 0);
        x.house(1, 1);
        Check.due("from the end", x.of(1, 1, 0), 1);
        Check.due("and behind it", x.of(1, 4, 0), -1);
        Check.due("as a chair of kind 0 is not warm by another", x.all(1, 4), 3);
    }
}
