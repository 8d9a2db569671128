/** The edges of promises 14 to 17 as calls: of, chairOf, all, cold. (What a minute does: EdgesOfMinutes.) */
final class EdgesOfEvenings {

    /** One chair that is warm for so many minutes, and one who comes so. */
    private static WarmChairs oneChair(int minutes, int from, int wanted) {
        WarmChairs x = new WarmChairs();
        x.chair(0, 0);
        x.house(2, minutes);
        x.one(from, wanted, 0);
        return x;
    }

    // ---- 14: of

    static void p14_n_0_to_30() {
        Edges.ends(Edges::rich, (x, v) -> x.of(v, 0, 0), 0, 30, -5);
    }

    static void p14_the_first_and_the_last_of_three() {
        Edges.ends(Edges::rich, (x, v) -> x.of(7, v, 1), 0, 2, -5);
    }

    static void p14_the_first_and_the_last_of_five() {
        Edges.ends(Edges::full, (x, v) -> x.of(7, v, 2), 0, 4, -5);
    }

    static void p14_nobody_is_there() {
        for (int p : new int[] {-1, 0, 1}) Edges.keeps("of(0, " + p + ", 0)", Edges::empty, x -> x.of(0, p, 0), -5);
    }

    static void p14_what_0_to_4() {
        Edges.ends(Edges::rich, (x, v) -> x.of(7, 1, v), 0, 4, -7);
    }

    static void p14_n_and_no_such_one_ahead_of_what() {
        Edges.keeps("n -1", Edges::rich, x -> x.of(-1, 0, 5), -5);
        Edges.keeps("n 31", Edges::rich, x -> x.of(31, 0, -1), -5);
        Edges.keeps("p -1", Edges::rich, x -> x.of(0, -1, 5), -5);
        Edges.keeps("p 3", Edges::rich, x -> x.of(0, 3, -1), -5);
    }

    static void p14_behind_0_minutes_nothing_has_been() {
        int[] due = {-1, 0, 0, -1, -1};
        for (int p = 0; p < 5; p++) {
            for (int w = 0; w < 5; w++) Check.due("of(0, " + p + ", " + w + ")", Edges.made(Edges::full).of(0, p, w), due[w]);
        }
    }

    static void p14_behind_each_n_of_one_who_sits_for_30_minutes_at_most() {
        WarmChairs x = oneChair(30, 0, 9);
        for (int n = 0; n <= 30; n++) {
            Check.due("sits on, behind " + n, x.of(n, 0, 0), n > 0 && n <= 9 ? 0 : -1);
            Check.due("SAT, behind " + n, x.of(n, 0, 1), Math.min(n, 9));
            Check.due("STOOD, behind " + n, x.of(n, 0, 2), 0);
            Check.due("RISEN in, behind " + n, x.of(n, 0, 3), n < 10 ? -1 : 9);
            Check.due("sat down on, behind " + n, x.of(n, 0, 4), n == 0 ? -1 : 0);
        }
    }

    static void p14_who_never_sits() {
        WarmChairs x = oneChair(0, 3, 1);
        for (int n = 0; n <= 30; n++) {
            Check.due("sits on, behind " + n, x.of(n, 0, 0), -1);
            Check.due("SAT, behind " + n, x.of(n, 0, 1), 0);
            Check.due("STOOD, behind " + n, x.of(n, 0, 2), Math.max(0, n - 3));
            Check.due("RISEN in, behind " + n, x.of(n, 0, 3), -1);
            Check.due("sat down on, behind " + n, x.of(n, 0, 4), -1);
        }
    }

    static void p14_no_chair_at_all() {
        WarmChairs x = new WarmChairs();
        x.one(29, 1, 0);
        x.one(0, 9, 9);
        Check.due("from 29 on: STOOD behind 29", x.of(29, 0, 2), 0);
        Check.due("from 29 on: STOOD behind 30", x.of(30, 0, 2), 1);
        Check.due("from 0 on: STOOD behind 30", x.of(30, 1, 2), 30);
        Check.due("sits on", x.of(30, 1, 0), -1);
    }

    static void p14_asking_changes_nothing() {
        Edges.keeps("of(1, 1, 0)", Edges::rich, x -> x.of(1, 1, 0), 0);
        Edges.keeps("of(30, 1, 3)", Edges::rich, x -> x.of(30, 1, 3), 3);
    }

    // ---- 15: chairOf

    static void p15_n_0_to_30() {
        Edges.ends(Edges::rich, (x, v) -> x.chairOf(v, 0, 0), 0, 30, -5);
    }

    static void p15_the_first_and_the_last_of_three() {
        Edges.ends(Edges::rich, (x, v) -> x.chairOf(7, v, 1), 0, 2, -5);
    }

    static void p15_the_first_and_the_last_of_six() {
        Edges.ends(Edges::full, (x, v) -> x.chairOf(7, v, 2), 0, 5, -5);
    }

    static void p15_no_chair_is_there() {
        for (int c : new int[] {-1, 0, 1}) Edges.keeps("chairOf(0, " + c + ", 0)", Edges::empty, x -> x.chairOf(0, c, 0), -5);
    }

    static void p15_what_0_to_2() {
        Edges.ends(Edges::rich, (x, v) -> x.chairOf(7, 1, v), 0, 2, -7);
    }

    static void p15_n_and_no_such_chair_ahead_of_what() {
        Edges.keeps("n -1", Edges::rich, x -> x.chairOf(-1, 0, 3), -5);
        Edges.keeps("n 31", Edges::rich, x -> x.chairOf(31, 0, -1), -5);
        Edges.keeps("c -1", Edges::rich, x -> x.chairOf(0, -1, 3), -5);
        Edges.keeps("c 3", Edges::rich, x -> x.chairOf(0, 3, -1), -5);
    }

    static void p15_till_less_n_is_0_at_least() {
        for (int minutes : new int[] {0, 1, 9, 29, 30}) {
            WarmChairs x = new WarmChairs();
            x.chair(0, 0);
            x.house(2, minutes);
            for (int n = 0; n <= 30; n++) {
                Check.due("warm for " + minutes + ", behind " + n, x.chairOf(n, 0, 1), Math.max(0, minutes - n));
                Check.due("free in " + n, x.chairOf(n, 0, 2), n < minutes ? 1 : 0);
                Check.due("nobody sits, behind " + n, x.chairOf(n, 0, 0), -1);
            }
        }
    }

    static void p15_not_warm_at_first_is_till_0() {
        WarmChairs x = new WarmChairs();
        Edges.chairs(x, 6);
        x.house(1, 32);
        for (int c = 0; c < 6; c++) {
            Check.due("TILL of " + c, x.chairOf(0, c, 1), c == 5 ? 9 : 0);
            Check.due("free " + c, x.chairOf(0, c, 2), c == 5 ? 1 : 0);
        }
    }

    static void p15_minute_30_is_asked_of_though_it_is_none_of_the_evening() {
        WarmChairs x = oneChair(30, 20, 9);
        // It rises in 29, and is warm till 32.
        Check.due("who sits behind 29", x.chairOf(29, 0, 0), 0);
        Check.due("who sits behind 30", x.chairOf(30, 0, 0), -1);
        Check.due("TILL less 30", x.chairOf(30, 0, 1), 2);
        Check.due("free in 30", x.chairOf(30, 0, 2), 1);
        x.wish(0, 0, 21);
        Check.due("who has sat as long sits yet", x.chairOf(30, 0, 0), 0);
        Check.due("TILL is as at first", x.chairOf(30, 0, 1), 0);
        Check.due("not free", x.chairOf(30, 0, 2), 0);
    }

    static void p15_while_one_sits_till_is_as_it_was() {
        WarmChairs x = oneChair(9, 2, 9);
        for (int n = 0; n <= 11; n++) Check.due("behind " + n, x.chairOf(n, 0, 1), Math.max(0, 9 - n));
        Check.due("risen in 11, warm till 14", x.chairOf(12, 0, 1), 2);
    }

    static void p15_a_stove_is_free_below_more_alone() {
        for (int more = 0; more <= 9; more++) {
            WarmChairs x = new WarmChairs();
            x.chair(3, more);
            x.house(1, 0);
            for (int n = 0; n <= 30; n++) Check.due("more " + more + " in " + n, x.chairOf(n, 0, 2), n < more ? 1 : 0);
        }
    }

    static void p15_asking_changes_nothing() {
        Edges.keeps("chairOf(1, 0, 0)", Edges::rich, x -> x.chairOf(1, 0, 0), 1);
        Edges.keeps("chairOf(30, 2, 1)", Edges::rich, x -> x.chairOf(30, 2, 1), 0);
    }

    // ---- 16: all

    static void p16_n_0_to_30() {
        Edges.ends(Edges::rich, (x, v) -> x.all(v, 0), 0, 30, -5);
        Edges.ends(Edges::empty, (x, v) -> x.all(v, 0), 0, 30, -5);
    }

    static void p16_what_0_to_5() {
        Edges.ends(Edges::rich, (x, v) -> x.all(7, v), 0, 5, -7);
        Edges.ends(Edges::empty, (x, v) -> x.all(7, v), 0, 5, -7);
    }

    static void p16_n_ahead_of_what() {
        Edges.keeps("all(-1, -1)", Edges::rich, x -> x.all(-1, -1), -5);
        Edges.keeps("all(31, 6)", Edges::rich, x -> x.all(31, 6), -5);
    }

    static void p16_nobody_and_no_chair() {
        int[] due = {0, 0, -1, 0, 0, 0};
        WarmChairs x = new WarmChairs();
        for (int n : new int[] {0, 1, 30}) {
            for (int w = 0; w < 6; w++) Check.due("all(" + n + ", " + w + ")", x.all(n, w), due[w]);
        }
    }

    static void p16_nobody_on_six_chairs() {
        WarmChairs x = new WarmChairs();
        Edges.chairs(x, 6);
        Edges.settings(x, 0, 63, 30);
        Check.due("who", x.all(30, 2), -1);
        Check.due("all six are warm in 29", x.all(29, 3), 63);
        Check.due("none is in 30", x.all(30, 3), 0);
        Check.due("none is sat on", x.all(29, 4), 0);
    }

    static void p16_five_on_six_chairs() {
        WarmChairs x = new WarmChairs();
        Edges.chairs(x, 6);
        Edges.settings(x, 0, 63, 30);
        for (int p = 0; p < 5; p++) x.one(0, 9, 0);
        Check.due("sat on behind 0", x.all(0, 4), 0);
        Check.due("sat on behind 1", x.all(1, 4), 31);
        Check.due("sat on behind 9", x.all(9, 4), 31);
        Check.due("sat on behind 10", x.all(10, 4), 0);
        Check.due("risen behind 9", x.all(9, 0), 0);
        Check.due("risen behind 10", x.all(10, 0), 5);
        Check.due("warm in 10", x.all(10, 3), 63);
        Check.due("the sixth alone in 12", x.all(12, 3), 32);
    }

    static void p16_five_stand_for_30_minutes() {
        WarmChairs x = new WarmChairs();
        for (int p = 0; p < 5; p++) x.one(0, 1, 0);
        for (int n = 0; n <= 30; n++) {
            Check.due("STOOD behind " + n, x.all(n, 1), 5 * n);
            Check.due("costs behind " + n, x.all(n, 5), 5 * n);
            Check.due("risen behind " + n, x.all(n, 0), 0);
        }
    }

    static void p16_who_stood_longest_of_like_ones_is_the_first() {
        WarmChairs x = new WarmChairs();
        for (int p = 0; p < 5; p++) x.one(p == 3 ? 4 : 5, 1, 0);
        Check.due("nobody stood: one 0", x.all(4, 2), 0);
        Check.due("one 3 alone", x.all(5, 2), 3);
        Check.due("one 3 longest", x.all(30, 2), 3);
        x.wish(1, 0, 4);
        Check.due("one 1 is ahead of one 3", x.all(30, 2), 1);
        x.wish(4, 0, 3);
        Check.due("the last", x.all(30, 2), 4);
    }

    static void p16_costs_are_bound_for_each_one() {
        WarmChairs x = new WarmChairs();
        for (int p = 0; p < 5; p++) x.one(0, 1, 0);
        Check.law(x, "warm 0;first 0;costs 100*number-101;");
        // -101, -1, 99, 199, 299.
        Check.due("0 0 99 99 99", x.all(0, 5), 297);
        Check.law(x, "warm 0;first 0;costs 9999;");
        Check.due("five times 99", x.all(0, 5), 495);
        Check.law(x, "warm 0;first 0;costs -1;");
        Check.due("five times 0", x.all(0, 5), 0);
    }

    static void p16_costs_are_told_by_minute_30_and_more_0() {
        for (int n : new int[] {0, 1, 29, 30}) {
            WarmChairs x = new WarmChairs();
            x.chair(1, 9);
            x.one(0, 1, 0);
            Check.law(x, "warm 0;first 0;costs minute;");
            Check.due("minute behind " + n, x.all(n, 5), 30);
            Check.law(x, "warm 0;first 0;costs more;");
            Check.due("more behind " + n, x.all(n, 5), 0);
        }
    }

    static void p16_costs_of_one_who_sat_9() {
        WarmChairs x = oneChair(1, 0, 9);
        Check.law(x, "warm 0;first 0;costs sat;");
        Check.due("behind 8", x.all(8, 5), 8);
        Check.due("behind 9", x.all(9, 5), 9);
        Check.due("behind 30", x.all(30, 5), 9);
    }

    static void p16_asking_changes_nothing() {
        int[] due = {0, 0, 0, 3, 0, 0};
        for (int w = 0; w < 6; w++) {
            int what = w;
            Edges.keeps("all(0, " + w + ")", Edges::rich, x -> x.all(0, what), due[w]);
        }
    }

    // ---- 17: cold

    static void p17_no_chair_is_cold_from_0_on() {
        Edges.keeps("cold()", Edges::empty, x -> x.cold(), 0);
        WarmChairs x = new WarmChairs();
        x.one(0, 1, 0);
        Check.due("one stands", x.cold(), 0);
    }

    static void p17_by_each_number_of_minutes() {
        WarmChairs x = new WarmChairs();
        x.chair(0, 0);
        for (int minutes = 0; minutes <= 30; minutes++) {
            x.house(2, minutes);
            Check.due("warm for " + minutes, x.cold(), minutes);
        }
    }

    static void p17_warm_in_minute_30_is_never_cold() {
        // One rises in 27, and it keeps warm till 30, or for a minute more till 31.
        WarmChairs x = oneChair(30, 18, 9);
        x.house(2, 19);
        Check.due("till 30", x.cold(), 30);
        x.wish(0, 2, 1);
        Check.due("till 31", x.cold(), -1);
    }

    static void p17_sat_on_behind_30_is_never_cold() {
        WarmChairs x = oneChair(30, 20, 9);
        Check.law(x, "warm 0;first 0;costs 0;");
        Check.due("it rises in 29", x.cold(), 30);
        x.wish(0, 0, 21);
        Check.due("it would rise in 30", x.cold(), -1);
    }

    static void p17_cold_for_a_while_is_not_yet_cold() {
        WarmChairs x = new WarmChairs();
        x.chair(0, 0);
        x.chair(3, 9);
        x.house(2, 0);
        Check.due("a stove is always warm", x.cold(), -1);
        // Sat on, though not warm, from 1 till 9; and then warm anew for 3 minutes.
        x = oneChair(1, 0, 9);
        Check.due("not while one sits", x.cold(), 12);
        Check.law(x, "warm 0;first 0;costs 0;");
        Check.due("behind minute 9", x.cold(), 10);
    }

    static void p17_a_bench_is_warm_by_one_who_sits_beside() {
        WarmChairs x = new WarmChairs();
        x.chair(0, 0);
        x.chair(5, 0);
        Edges.settings(x, 0, 1, 1);
        x.one(0, 5, 0);
        Check.law(x, "warm 0;first 0;costs 0;");
        Check.due("warm behind 5", x.all(5, 3), 2);
        Check.due("cold", x.cold(), 6);
    }

    static void p17_asking_changes_nothing() {
        Edges.keeps("cold()", Edges::rich, x -> x.cold(), -1);
    }
}
