/** Promises 25 and 26: ever, fewest. */
public final class KeeperTest {
    public static void main(String[] args) {
        refusals();
        ever();
        fewest();
        byTheLetter();
        Check.end();
    }

    private static void refusals() {
        WarmChairs x = new WarmChairs();
        int[][] bad = {{0, 0, 0}, {21, 0, 0}, {1, -1, 0}, {1, 21, 0}, {1, 0, -1}, {1, 0, 21}};
        for (int[] b : bad) Check.due("ever() that is bad", x.ever(b[0], b[1], b[2]), WarmChairs.BAD);
        Check.due("fewest(0, 0)", x.fewest(0, 0), WarmChairs.BAD);
        Check.due("fewest(21, 0)", x.fewest(21, 0), WarmChairs.BAD);
        Check.due("fewest(1, -1)", x.fewest(1, -1), WarmChairs.BAD);
        Check.due("fewest(1, 21)", x.fewest(1, 21), WarmChairs.BAD);
    }

    private static void ever() {
        WarmChairs x = new WarmChairs();
        int[][] due = {{1, 0, 0, 0}, {1, 0, 5, 5}, {1, 1, 0, 0}, {1, 1, 1, -1}, {2, 1, 1, 1}, {2, 1, 2, -1},
            {3, 1, 2, 2}, {3, 1, 3, -1}, {3, 2, 2, -1}, {3, 2, 1, 1}, {20, 1, 20, -1}, {20, 1, 19, 19},
            {5, 2, 3, -1}, {5, 2, 2, 2}, {20, 0, 20, 20}, {20, 20, 1, -1}, {20, 19, 1, 1}, {20, 20, 0, 0}};
        for (int[] d : due) {
            Check.due("ever(" + d[0] + ", " + d[1] + ", " + d[2] + ")", x.ever(d[0], d[1], d[2]), d[3]);
        }
    }

    private static void fewest() {
        WarmChairs x = new WarmChairs();
        int[][] due = {{1, 0, -1}, {20, 0, -1}, {1, 1, 1}, {1, 20, 1}, {20, 1, 20}, {20, 20, 1}, {20, 19, 2},
            {5, 2, 3}, {5, 3, 2}, {7, 2, 4}, {20, 10, 2}, {20, 7, 3}};
        for (int[] d : due) Check.due("fewest(" + d[0] + ", " + d[1] + ")", x.fewest(d[0], d[1]), d[2]);
        x.chair(0, 0);
        x.one(0, 1, 0);
        x.ever(20, 20, 20);
        Check.due("the house does not matter", x.fewest(5, 2), 3);
        Check.due("nor is it changed", x.all(30, 0), 1);
    }

    /** All of them, by the words of the document. */
    private static void byTheLetter() {
        WarmChairs x = new WarmChairs();
        for (int many = 1; many <= 20; many++) {
            for (int warm = 0; warm <= 20; warm++) {
                int least = -1;
                for (int keepers = 20; keepers >= 0; keepers--) {
                    int due = coldMinute(many, keepers, warm);
                    if (due < 0) least = keepers;
                    Check.due("ever(" + many + ", " + keepers + ", " + warm + ")", x.ever(many, keepers, warm), due);
                }
                Check.due("fewest(" + many + ", " + warm + ")", x.fewest(many, warm), least);
            }
        }
    }

    private static int coldMinute(int many, int keepers, int warm) {
        int[] till = new int[many];
        for (int c = 0; c < many; c++) till[c] = warm;
        for (int m = 0; m < 200; m++) {
            for (int t : till) if (m >= t) return m;
            for (int k = 0; k < keepers; k++) {
                int least = 0;
                for (int c = 1; c < many; c++) if (till[c] < till[least]) least = c;
                till[least] = m + 1 + warm;
            }
        }
        return -1;
    }
}
