/** Promises 27 to 30: judge, were, laws, film. */
public final class ToldTest {
    public static void main(String[] args) {
        refusals();
        judge();
        judgeBySorts();
        were();
        laws();
        film();
        Check.end();
    }

    private static void tell(WarmChairs x, int s, int sort, int... told) {
        Check.due("sheet", x.sheet(s, sort, told.length), 1);
        for (int i = 0; i < told.length; i++) Check.due("cell", x.cell(s, i, told[i]), 1);
    }

    private static void refusals() {
        WarmChairs x = new WarmChairs();
        x.one(0, 1, 0);
        x.one(0, 1, 0);
        x.sheet(1, 2, 2);
        x.sheet(2, 2, 3);
        x.sheet(3, 2, 1);
        int[][] due = {{-1, 31, -2}, {4, 31, -2}, {0, 31, -11}, {2, 31, -2}, {3, 31, -2}, {1, 31, -7}, {1, -1, -7}};
        for (int[] d : due) {
            Check.due("judge(" + d[0] + ", " + d[1] + ")", x.judge(d[0], d[1]), d[2]);
            Check.due("laws(" + d[0] + ", " + d[1] + ")", x.laws(d[0], d[1]), d[2]);
            Check.due("were(" + d[0] + ", " + d[1] + ")", x.were(d[0], d[1]), WarmChairs.NO);
        }
        Check.due("film(-1, 31)", x.film(-1, 31), WarmChairs.BAD);
        Check.due("film(4, 31)", x.film(4, 31), WarmChairs.BAD);
        Check.due("film(0, 31)", x.film(0, 31), -7);
        Check.due("film(0, -1)", x.film(0, -1), -7);
        Check.due("the sheet is missing yet", x.cell(0, 0, 0), -11);
    }

    /** One chair; one 0 sits 0 .. 2, one 1 stands from 2 on, sits from 3 on, one 2 comes in 5. */
    private static WarmChairs three() {
        WarmChairs x = new WarmChairs();
        x.chair(0, 0);
        x.one(0, 3, 0);
        x.one(2, 4, 0);
        x.one(5, 1, 0);
        return x;
    }

    private static void judge() {
        WarmChairs x = three();
        int[][] told = {{0, 0, 0}, {2, 0, 0}, {2, 0, 0}, {2, 1, 0}, {3, 2, 0}, {3, 2, 0}, {3, 2, 1}, {3, 2, 1},
            {3, 3, 2}, {3, 3, 3}};
        for (int n = 0; n < told.length; n++) {
            tell(x, 0, 2, told[n]);
            Check.due("behind " + n, x.judge(0, n), -1);
            for (int p = 0; p < 3; p++) {
                for (int v = -1; v <= 4; v++) {
                    x.cell(0, p, v);
                    Check.due("behind " + n + " one " + p + " is " + v, x.judge(0, n), v == told[n][p] ? -1 : p);
                }
                x.cell(0, p, told[n][p]);
            }
            x.cell(0, 1, 9);
            x.cell(0, 2, 9);
            Check.due("the first who is otherwise", x.judge(0, n), 1);
        }
        WarmChairs y = new WarmChairs();
        y.sheet(0, 1, 0);
        Check.due("nobody", y.judge(0, 30), -1);
    }

    private static void judgeBySorts() {
        WarmChairs x = three();
        for (int sort = 0; sort < 3; sort++) {
            tell(x, 3, sort, 3, 2, 1);
            Check.due("sort " + sort, x.judge(3, 6), -1);
        }
        tell(x, 3, 0, 256 + 3, -254, 65537);
        Check.due("bytes are cut", x.judge(3, 6), -1);
        tell(x, 3, 1, 65536 + 3, 2 - 65536, 65537);
        Check.due("shorts are cut", x.judge(3, 6), -1);
        tell(x, 3, 1, 256 + 3, 2, 1);
        Check.due("shorts are not cut to bytes", x.judge(3, 6), 0);
        tell(x, 3, 2, 3, 65536 + 2, 1);
        Check.due("ints are not cut", x.judge(3, 6), 1);
    }

    private static void were() {
        WarmChairs x = new WarmChairs();
        x.chair(0, 0);
        x.chair(0, 0);
        x.chair(0, 0);
        x.one(0, 9, 0);
        x.one(0, 9, 0);
        tell(x, 0, 0, 2, 1);
        Check.due("one was warm", x.were(0, 1), 1L << 1 | 1L << 2 | 1L << 4);
        tell(x, 0, 0, 2, 2);
        Check.due("two or three were", x.were(0, 1), 1L << 3 | 1L << 5 | 1L << 6 | 1L << 7);
        tell(x, 0, 0, 1, 1);
        Check.due("none was", x.were(0, 1), 1L);
        tell(x, 0, 0, 1, 2);
        Check.due("that can't be", x.were(0, 1), 0L);
        tell(x, 0, 0, 0, 0);
        Check.due("whatever was", x.were(0, 0), 255L);
        Check.due("the house is as it was", x.count(1), 1);
        x.chair(0, 0);
        x.chair(0, 0);
        x.chair(0, 0);
        Check.due("all 64", x.were(0, 0), -1L);
        x.house(2, 0);
        tell(x, 0, 0, 1, 1);
        Check.due("warm for no minute", x.were(0, 1), -1L);
        WarmChairs y = new WarmChairs();
        y.one(0, 1, 0);
        tell(y, 0, 0, 1);
        Check.due("no chair", y.were(0, 1), 1L);
        Check.due("no chair", y.were(0, 0), 0L);
    }

    private static void laws() {
        WarmChairs x = three();
        Check.text(x, "warm 0 ; first 0 ; costs 0 ;");
        Check.text(x, "warm 1 ; first 0 ; costs 0 ;");
        Check.text(x, "warm 9 ; first 0 - number ; costs 0 ;");
        Check.text(x, "warm 9 ; first 9 - number ; costs 0 ;");
        tell(x, 0, 2, 3, 2, 0);
        Check.due("all but the cold one", x.laws(0, 4), 1 | 4 | 8 | 16);
        tell(x, 0, 2, 3, 1, 0);
        Check.due("the cold one", x.laws(0, 4), 2);
        tell(x, 0, 2, 0, 0, 0);
        Check.due("all", x.laws(0, 0), 31);
        Check.due("the law is as it was", x.count(6), 0);
        tell(x, 0, 2, 3, 3, 2);
        Check.due("who keeps warm till 8", x.laws(0, 8), 1 | 4 | 8 | 16);
        x.wish(2, 0, 2);
        tell(x, 0, 2, 3, 1, 2);
        Check.due("who lets the last go first", x.laws(0, 4), 16);
        tell(x, 0, 2, 3, 3, 3);
        Check.due("none", x.laws(0, 4), 0);
        x.force(4);
        tell(x, 0, 2, 3, 1, 2);
        Check.due("whatever is the law", x.laws(0, 4), 16);
        Check.due("and stays", x.count(6), 4);
    }

    private static void film() {
        WarmChairs x = three();
        tell(x, 2, 0, 9, 9, 9, 9, 9, 9, 9);
        Check.due("film", x.film(2, 6), 3);
        Check.due("it is so", x.judge(2, 6), -1);
        Check.due("it is not so behind 9", x.judge(2, 9), 1);
        Check.due("its size is 3", x.cell(2, 3, 0), -12);
        x.sheet(1, 2, 3);
        Check.due("it is of ints", x.copy(2, 0, 1, 0, 3), 3);
        Check.due("and so the other one tells", x.judge(1, 6), -1);
        int[] due = {3, 2, 1};
        for (int p = 0; p < 3; p++) {
            x.cell(1, p, due[p] + 1);
            Check.due("cell " + p, x.judge(1, 6), p);
            x.cell(1, p, due[p]);
        }
        for (int n = 0; n <= 30; n++) {
            Check.due("film(0, " + n + ")", x.film(0, n), 3);
            Check.due("judge(0, " + n + ")", x.judge(0, n), -1);
        }
        Check.due("onesBy of ints", x.onesBy(0, 2, 0, 1), 1);
        WarmChairs y = new WarmChairs();
        Check.due("nobody", y.film(3, 5), 0);
        Check.due("a sheet of none", y.cell(3, 0, 0), -12);
    }
}
