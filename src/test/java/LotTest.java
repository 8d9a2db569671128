/** Promises 31 to 34: drawn, odds, image, back. */
public final class LotTest {
    public static void main(String[] args) {
        refusals();
        drawn();
        odds();
        image();
        back();
        Check.end();
    }

    private static void refusals() {
        WarmChairs x = new WarmChairs();
        Check.due("drawn(-1)", x.drawn(-1), WarmChairs.BAD);
        Check.due("drawn(100000)", x.drawn(100000), WarmChairs.BAD);
        int[][] bad = {{-1, 1, 0, 0}, {100000, 1, 0, 0}, {0, 0, 0, 0}, {0, 21, 0, 0}, {0, 1, -1, 0}, {0, 1, 6, 0},
            {0, 1, 0, -1}, {0, 1, 0, 2}};
        for (int[] b : bad) Check.due("odds() that is bad", x.odds(b[0], b[1], b[2], b[3]), WarmChairs.NO);
        Check.due("back()", x.back(), WarmChairs.STATE);
    }

    /** Six chairs, of which those that are not told never let. */
    private static WarmChairs chairs(int told) {
        WarmChairs x = new WarmChairs();
        for (int c = 0; c < 6; c++) x.chair((told >> c & 1) != 0 ? 0 : 3, 0);
        return x;
    }

    private static void drawn() {
        // The first six lots, odd or not, of some seeds.
        int[] seeds = {0, 1, 7, 12345, 99999};
        int[][] odd = {{1, 0, 0, 1, 1, 1}, {0, 0, 1, 1, 1, 0}, {0, 0, 0, 1, 1, 1}, {0, 1, 0, 1, 0, 1},
            {0, 1, 1, 1, 1, 0}};
        for (int c = 0; c < 6; c++) {
            WarmChairs x = chairs(1 << c);
            x.one(0, 1, 0);
            for (int k = 0; k < seeds.length; k++) {
                Check.due("chair " + c + " by seed " + seeds[k], x.drawn(seeds[k]), odd[k][c]);
            }
            Check.due("the house is as it was", x.count(1), 1);
        }
        WarmChairs y = five();
        int[] rise = {4, 3, 5, 2, 5, 4, 3, 3, 4, 2, 3, 3, 5, 2, 5, 4, 3, 3, 5, 4};
        for (int seed = 0; seed < 20; seed++) Check.due("drawn(" + seed + ")", y.drawn(seed), rise[seed]);
        Check.due("no chair", new WarmChairs().drawn(0), 0);
    }

    /** Five people on six chairs, each of which serves one. */
    private static WarmChairs five() {
        WarmChairs x = chairs(63);
        for (int p = 0; p < 5; p++) x.one(0, 9, 0);
        Check.law(x, "warm 0 ; first 0 ; costs 0 ;");
        return x;
    }

    private static void oddsAre(WarmChairs x, int seed, int seeds, int n, int above, int below) {
        String call = "odds(" + seed + ", " + seeds + ", " + n + ")";
        Check.due(call + " above", x.odds(seed, seeds, n, 0), above);
        Check.due(call + " below", x.odds(seed, seeds, n, 1), below);
    }

    private static void odds() {
        WarmChairs x = five();
        oddsAre(x, 0, 20, 0, 1, 1);
        oddsAre(x, 0, 20, 2, 1, 1);
        oddsAre(x, 0, 20, 3, 17, 20);
        oddsAre(x, 0, 20, 4, 1, 2);
        oddsAre(x, 0, 20, 5, 1, 4);
        oddsAre(x, 0, 1, 4, 1, 1);
        oddsAre(x, 0, 1, 5, 0, 1);
        oddsAre(x, 0, 2, 4, 1, 2);
        oddsAre(x, 0, 6, 4, 2, 3);
        oddsAre(x, 6, 6, 4, 1, 6);
        oddsAre(x, 0, 9, 3, 8, 9);
        oddsAre(x, 0, 12, 4, 5, 12);
        // From 99990 on: 3 3 4 4 4 2 5 3 5 4, and past 99999: 5 3 4 4 3 2 5 2 3 2.
        oddsAre(x, 99990, 20, 4, 1, 2);
        oddsAre(x, 99990, 20, 5, 1, 5);
        oddsAre(x, 99999, 2, 5, 1, 2);
        oddsAre(new WarmChairs(), 5, 9, 0, 1, 1);
        oddsAre(new WarmChairs(), 5, 9, 1, 0, 1);
    }

    private static void image() {
        WarmChairs x = new WarmChairs();
        Check.due("nobody", x.image(), 0);
        x.one(0, 1, 0);
        x.one(0, 1, 0);
        Check.due("two", x.image(), 2);
        Check.due("image() changes nothing", x.count(3), 2);
    }

    private static void back() {
        WarmChairs x = new WarmChairs();
        x.one(1, 2, 3);
        x.one(4, 5, 6);
        x.chair(4, 7);
        x.chair(3, 8);
        x.house(0, 2);
        x.house(1, 33);
        x.house(2, 22);
        Check.law(x, "warm 1 ; first 1 ; costs 1 ;");
        Check.due("image", x.image(), 2);
        for (int again = 0; again < 2; again++) {
            x.one(9, 9, 9);
            x.wish(0, 0, 11);
            x.wish(0, 1, 9);
            x.wish(1, 2, 0);
            x.chair(0, 0);
            x.chair(1, 1);
            x.mend(0, 5, 5);
            x.mend(1, 3, 0);
            x.house(0, 1);
            x.house(1, 0);
            x.house(2, 1);
            x.sheet(0, 2, 4);
            Check.text(x, "warm 2 ; first 2 ; costs 2 ;");
            x.force(2);
            Check.feed(x, "abc");
            Check.due("back", x.back(), 2);
            int[] counts = {2, 33, 22, 2, 2, 3 + again, 1, 3};
            for (int w = 0; w < 8; w++) Check.due("count(" + w + ")", x.count(w), counts[w]);
            int[][] people = {{1, 2, 3}, {4, 5, 6}};
            for (int p = 0; p < 2; p++) {
                for (int w = 0; w < 3; w++) Check.due("one " + p, x.oneTold(p, w), people[p][w]);
            }
            Check.due("no third one", x.oneTold(2, 0), -5);
            Check.due("no third chair", x.chairTold(2, 0), -5);
            Check.due("chair 0", x.chairTold(0, 0) * 10 + x.chairTold(0, 1), 47);
            Check.due("chair 1", x.chairTold(1, 0) * 10 + x.chairTold(1, 1), 38);
            Check.due("the law", x.asks(0, 0, 0, 0, 0), 1);
            Check.due("sheets stay", x.cell(0, 3, 0), 1);
            Check.due("the tape stays", x.text(), -100);
        }
        Check.due("a third one comes anew", x.one(7, 8, 9), 2);
        Check.due("a third chair comes anew", x.chair(2, 2), 2);
        x.image();
        Check.due("a later image", x.back(), 3);
        fewerThan();
    }

    /** An image of fewer, and one of more, than there are. */
    private static void fewerThan() {
        WarmChairs x = new WarmChairs();
        Check.due("an image of nobody", x.image(), 0);
        for (int p = 0; p < 5; p++) x.one(p, 1, p);
        for (int c = 0; c < 6; c++) x.chair(c, c);
        Check.due("back to nobody", x.back(), 0);
        Check.due("no people", x.count(3), 0);
        Check.due("no chairs", x.count(4), 0);
        Check.due("of()", x.of(0, 0, 0), -5);
        Check.due("taken()", x.taken(0, 6), -11);
        Check.due("one() anew", x.one(9, 9, 9), 0);
        Check.due("who it is", x.oneTold(0, 0), 9);
    }
}
