/** The edges of promises 27 to 30: judge, were, laws, film. */
final class EdgesOfTold {
    private static final int BAD = WarmChairs.BAD;
    private static final long NO = WarmChairs.NO;

    /** Rich has three people: sheet 0 has three cells, sheet 1 four, sheet 3 is missing. */
    private interface ByTwo { long of(WarmChairs x, int s, int n); }

    private static void refusals(ByTwo call, long bad, long missing, long minutes) {
        Edges.ends(x -> {
            Edges.people(x, 3);
            for (int s = 0; s < 4; s++) x.sheet(s, s % 3, 3);
        }, (x, v) -> call.of(x, v, 0), 0, 3, bad);
        Edges.keeps("missing", Edges::rich, x -> call.of(x, 3, 0), missing);
        Edges.keeps("one cell too many", Edges::rich, x -> call.of(x, 1, 0), bad);
        Edges.keeps("one cell too few", x -> {
            Edges.rich(x);
            x.sheet(0, 2, 2);
        }, x -> call.of(x, 0, 0), bad);
        Edges.ends(Edges::rich, (x, v) -> call.of(x, 0, v), 0, 30, minutes);
    }

    private static void order(ByTwo call, long bad, long missing) {
        Edges.keeps("no such sheet ahead of n", Edges::rich, x -> call.of(x, 4, 31), bad);
        Edges.keeps("no such sheet ahead of n", Edges::rich, x -> call.of(x, -1, -1), bad);
        Edges.keeps("missing ahead of n", Edges::rich, x -> call.of(x, 3, 31), missing);
        Edges.keeps("its size ahead of n", Edges::rich, x -> call.of(x, 1, 31), bad);
        Edges.keeps("its size ahead of n", Edges::rich, x -> call.of(x, 1, -1), bad);
    }

    /** One chair: one 0 sits 0 .. 2, one 1 stands in 2 and sits 3 .. 5, one 2 comes and sits in 8. */
    private static void three(WarmChairs x) {
        x.chair(0, 0);
        x.one(0, 3, 0);
        x.one(2, 3, 0);
        x.one(8, 1, 0);
    }

    private static final int[][] TOLD = {{0, 0, 0}, {2, 0, 0}, {2, 0, 0}, {2, 1, 0}, {3, 2, 0}, {3, 2, 0}, {3, 2, 0},
        {3, 3, 0}, {3, 3, 0}, {3, 3, 2}, {3, 3, 3}};

    // ---- 27: judge

    static void p27_refusals() {
        refusals((x, s, n) -> x.judge(s, n), BAD, -11, -7);
    }

    static void p27_the_order_of_refusals() {
        order((x, s, n) -> x.judge(s, n), BAD, -11);
    }

    static void p27_nobody_and_an_empty_sheet() {
        WarmChairs x = new WarmChairs();
        Check.due("missing", x.judge(0, 0), -11);
        x.sheet(0, 0, 1);
        Check.due("of one", x.judge(0, 0), BAD);
        x.sheet(0, 0, 0);
        Check.due("of none, behind 0", x.judge(0, 0), -1);
        Check.due("of none, behind 30", x.judge(0, 30), -1);
        Check.due("n 31", x.judge(0, 31), -7);
        x.one(0, 1, 0);
        Check.due("one is there, none told", x.judge(0, 0), BAD);
    }

    static void p27_behind_each_n() {
        WarmChairs x = Edges.made(EdgesOfTold::three);
        for (int n = 0; n < TOLD.length; n++) {
            Edges.row(x, 0, 2, TOLD[n]);
            Check.due("behind " + n, x.judge(0, n), -1);
        }
        Check.due("behind 30", x.judge(0, 30), -1);
    }

    static void p27_from_is_below_n_or_not() {
        WarmChairs x = new WarmChairs();
        x.one(29, 1, 0);
        Edges.row(x, 0, 0, 0);
        Edges.row(x, 1, 0, 1);
        Check.due("behind 29: absent", x.judge(0, 29), -1);
        Check.due("behind 29: not neither", x.judge(1, 29), 0);
        Check.due("behind 30: not absent", x.judge(0, 30), 0);
        Check.due("behind 30: neither", x.judge(1, 30), -1);
        x.wish(0, 0, 0);
        Check.due("from 0 on, behind 0", x.judge(0, 0), -1);
        Check.due("from 0 on, behind 1", x.judge(1, 1), -1);
    }

    static void p27_each_number_that_is_otherwise() {
        int[] values = {Edges.MIN, -1, 0, 1, 2, 3, 4, 256, Edges.MAX};
        for (int n : new int[] {0, 1, 3, 4, 10}) {
            WarmChairs x = Edges.made(EdgesOfTold::three);
            for (int p = 0; p < 3; p++) {
                for (int v : values) {
                    Edges.row(x, 0, 2, TOLD[n]);
                    x.cell(0, p, v);
                    Check.due("behind " + n + " one " + p + " is " + v, x.judge(0, n), v == TOLD[n][p] ? -1 : p);
                }
            }
        }
    }

    static void p27_the_first_and_the_last_of_five_who_is_otherwise() {
        WarmChairs x = new WarmChairs();
        Edges.people(x, 5);
        Edges.row(x, 0, 1, 0, 0, 0, 0, 9);
        Check.due("the last", x.judge(0, 0), 4);
        x.cell(0, 2, 9);
        Check.due("the third", x.judge(0, 0), 2);
        x.cell(0, 0, 9);
        Check.due("the first", x.judge(0, 0), 0);
    }

    static void p27_of_each_sort() {
        for (int sort = 0; sort < 3; sort++) {
            WarmChairs x = Edges.made(EdgesOfTold::three);
            Edges.row(x, 2, sort, 3, 2, 0);
            Check.due("as told", x.judge(2, 4), -1);
            Edges.row(x, 2, sort, 256 + 3, 2, 0);
            Check.due("256 more", x.judge(2, 4), sort == 0 ? -1 : 0);
            Edges.row(x, 2, sort, 3, 65536 + 2, 0);
            Check.due("65536 more", x.judge(2, 4), sort < 2 ? -1 : 1);
        }
    }

    static void p27_asking_changes_nothing() {
        Edges.keeps("as told", x -> {
            three(x);
            Edges.row(x, 0, 0, 3, 2, 0);
        }, x -> x.judge(0, 4), -1);
        Edges.keeps("otherwise", Edges::rich, x -> x.judge(0, 0), 0);
    }

    // ---- 28: were

    static void p28_refusals() {
        refusals((x, s, n) -> x.were(s, n), NO, NO, NO);
    }

    static void p28_refusals_of_two() {
        order((x, s, n) -> x.were(s, n), NO, NO);
    }

    /** So many chairs, and one who comes in minute 0. */
    private static WarmChairs chairs(int n) {
        WarmChairs x = new WarmChairs();
        Edges.chairs(x, n);
        x.one(0, 1, 0);
        return x;
    }

    static void p28_no_chair_is_the_empty_set_alone() {
        WarmChairs x = chairs(0);
        Edges.row(x, 0, 0, 1);
        Check.due("stands", x.were(0, 1), 1);
        Edges.row(x, 0, 0, 2);
        Check.due("sits", x.were(0, 1), 0);
    }

    static void p28_nobody_is_all_sets() {
        WarmChairs x = new WarmChairs();
        x.sheet(0, 0, 0);
        Check.due("no chair", x.were(0, 0), 1);
        for (int c = 1; c <= 6; c++) {
            Edges.chairs(x, 1);
            Check.due(c + " chairs", x.were(0, 30), c == 6 ? -1L : (1L << (1 << c)) - 1);
        }
    }

    static void p28_of_one_to_six_chairs() {
        for (int c = 1; c <= 6; c++) {
            WarmChairs x = chairs(c);
            Edges.row(x, 0, 0, 1);
            Check.due("stands", x.were(0, 1), 1);
            Edges.row(x, 0, 0, 2);
            Check.due("sits", x.were(0, 1), c == 6 ? -2L : (1L << (1 << c)) - 2);
        }
    }

    static void p28_number_63_is_the_highest_bit() {
        // Of five stoves that never let and a chair, the sixth: it is warm in sets 32 .. 63.
        WarmChairs x = new WarmChairs();
        for (int c = 0; c < 5; c++) x.chair(3, 0);
        x.chair(0, 0);
        x.one(0, 1, 0);
        Edges.row(x, 0, 0, 2);
        Check.due("sits", x.were(0, 1), -1L << 32);
        Edges.row(x, 0, 0, 1);
        Check.due("stands", x.were(0, 1), (1L << 32) - 1);
    }

    static void p28_number_0_is_the_lowest_bit() {
        WarmChairs x = chairs(6);
        Edges.row(x, 0, 0, 1);
        Check.due("none was warm", x.were(0, 1), 1L);
    }

    static void p28_none_is_0() {
        WarmChairs x = chairs(6);
        Edges.row(x, 0, 0, 9);
        Check.due("that can't be", x.were(0, 1), 0L);
    }

    static void p28_whatever_is_warm_at_first_now() {
        for (int bits : new int[] {0, 1, 63}) {
            WarmChairs x = chairs(2);
            x.house(1, bits);
            Edges.row(x, 0, 0, 2);
            Check.due("by " + bits, x.were(0, 1), 14);
            Check.due("stays", x.count(1), bits);
        }
    }

    static void p28_asking_changes_nothing() {
        Edges.keeps("were(0, 0)", Edges::rich, x -> x.were(0, 0), 0);
        Edges.keeps("were(0, 4)", x -> {
            three(x);
            Edges.row(x, 0, 0, 3, 2, 0);
        }, x -> x.were(0, 4), 2);
    }

    // ---- 29: laws

    static void p29_refusals() {
        refusals((x, s, n) -> x.laws(s, n), BAD, -11, -7);
    }

    static void p29_the_order_of_refusals() {
        order((x, s, n) -> x.laws(s, n), BAD, -11);
    }

    static void p29_text_0_alone() {
        WarmChairs x = Edges.made(EdgesOfTold::three);
        Edges.row(x, 0, 0, 3, 2, 0);
        Check.due("as told", x.laws(0, 4), 1);
        Edges.row(x, 0, 0, 3, 1, 0);
        Check.due("otherwise", x.laws(0, 4), 0);
    }

    static void p29_six_texts() {
        WarmChairs x = Edges.made(EdgesOfTold::three);
        for (int t = 1; t < 6; t++) {
            Check.text(x, "warm " + (t == 5 ? 0 : t) + ";first 0;costs 0;");
            Edges.row(x, 0, 0, 0, 0, 0);
            Check.due("all, behind 0, of " + (t + 1), x.laws(0, 0), (2 << t) - 1);
        }
        Edges.row(x, 0, 0, 3, 1, 0);
        Check.due("the last alone", x.laws(0, 4), 32);
        Edges.row(x, 0, 0, 3, 2, 0);
        Check.due("all but the last", x.laws(0, 4), 31);
        Edges.row(x, 0, 0, 3, 3, 3);
        Check.due("none", x.laws(0, 4), 0);
    }

    static void p29_whatever_is_the_law_now() {
        for (int law = 0; law < 2; law++) {
            WarmChairs x = Edges.made(EdgesOfTold::three);
            Check.text(x, "warm 0;first 0;costs 0;");
            x.force(law);
            Edges.row(x, 0, 0, 3, 1, 0);
            Check.due("by " + law, x.laws(0, 4), 2);
            Check.due("stays", x.count(6), law);
        }
    }

    static void p29_nobody() {
        WarmChairs x = new WarmChairs();
        x.sheet(0, 2, 0);
        Check.due("all texts", x.laws(0, 30), 1);
        Check.text(x, "warm 0;first 0;costs 0;");
        Check.due("all texts", x.laws(0, 30), 3);
    }

    static void p29_asking_changes_nothing() {
        Edges.keeps("laws(0, 0)", Edges::rich, x -> x.laws(0, 0), 0);
        Edges.keeps("laws(2, 2)", Edges::rich, x -> x.laws(2, 2), 0);
    }

    // ---- 30: film

    static void p30_sheet_0_to_3() {
        Edges.ends(Edges::rich, (x, v) -> x.film(v, 0), 0, 3, BAD);
    }

    static void p30_n_0_to_30() {
        Edges.ends(Edges::rich, (x, v) -> x.film(0, v), 0, 30, -7);
        Edges.ends(Edges::rich, (x, v) -> x.film(3, v), 0, 30, -7);
    }

    static void p30_no_such_sheet_ahead_of_n() {
        Edges.keeps("film(4, 31)", Edges::rich, x -> x.film(4, 31), BAD);
        Edges.keeps("film(-1, -1)", Edges::rich, x -> x.film(-1, -1), BAD);
    }

    static void p30_nobody_is_an_empty_sheet_of_ints() {
        WarmChairs x = new WarmChairs();
        x.sheet(0, 0, 40);
        for (int s : new int[] {0, 3}) {
            Check.due("film", x.film(s, 30), 0);
            Check.due("its sort", Edges.sort(x, s), 2);
            Check.due("its size", Edges.size(x, s), 0);
            Check.due("as told", x.judge(s, 30), -1);
        }
    }

    static void p30_a_missing_a_smaller_and_a_greater_one_become_that() {
        WarmChairs x = new WarmChairs();
        Edges.people(x, 5);
        x.sheet(1, 0, 4);
        x.sheet(2, 1, 40);
        x.sheet(3, 2, 5);
        for (int i = 0; i < 40; i++) x.cell(2, i, 7);
        for (int s = 0; s < 4; s++) {
            Check.due("film " + s, x.film(s, 1), 5);
            Check.due("its sort", Edges.sort(x, s), 2);
            Check.due("its size", Edges.size(x, s), 5);
            Check.due("all stand", x.judge(s, 1), -1);
            Check.due("none is absent", x.judge(s, 0), 0);
        }
    }

    static void p30_behind_each_n() {
        WarmChairs x = Edges.made(EdgesOfTold::three);
        for (int n = 0; n < TOLD.length; n++) {
            Check.due("film behind " + n, x.film(0, n), 3);
            for (int p = 0; p < 3; p++) {
                // The cell alone in a sheet of three others that are as told.
                Edges.row(x, 1, 2, TOLD[n]);
                x.cell(1, p, -1);
                x.copy(0, p, 1, p, 1);
                Check.due("one " + p + " behind " + n, x.judge(1, n), -1);
            }
        }
    }

    static void p30_only_the_sheet_is_changed() {
        WarmChairs x = Edges.made(Edges::rich);
        Check.due("film", x.film(3, 30), 3);
        x.sheet(3, -1, 0);
        Edges.keeps("and missing again", Edges::rich, y -> {
            y.film(3, 30);
            return y.sheet(3, -1, 0);
        }, 1);
    }
}
