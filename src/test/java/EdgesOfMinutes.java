/** The edges of what a minute does, told by promises 14 (of), 15 (chairOf) and 16 (all). */
final class EdgesOfMinutes {

    /** A house of one chair that is warm in minute 0 alone. */
    private static WarmChairs oneChair(int kind, int more) {
        WarmChairs x = new WarmChairs();
        x.chair(kind, more);
        x.house(2, 1);
        return x;
    }

    private static String law(int warm) {
        return "warm " + warm + ";first 0;costs 0;";
    }

    // ---- who wants, who rises

    static void p14_from_is_the_first_minute_in_which_one_wants() {
        WarmChairs x = new WarmChairs();
        x.chair(0, 0);
        x.house(2, 30);
        x.one(0, 1, 0);
        for (int from = 0; from < 30; from++) {
            x.wish(0, 0, from);
            Check.due("behind " + from, x.of(from, 0, 4), -1);
            Check.due("behind one more than " + from, x.of(from + 1, 0, 4), 0);
        }
    }

    static void p14_warm_at_first_in_minutes_below_so_many() {
        for (int minutes = 0; minutes <= 30; minutes++) {
            WarmChairs x = new WarmChairs();
            x.chair(0, 0);
            x.one(0, 1, 0);
            x.house(2, minutes);
            for (int from = 0; from < 30; from++) {
                x.wish(0, 0, from);
                Check.due("warm for " + minutes + ", from " + from, x.of(30, 0, 4), from < minutes ? 0 : -1);
            }
        }
    }

    static void p14_one_rises_having_sat_as_long_as_wanted() {
        for (int wanted = 1; wanted <= 9; wanted++) {
            WarmChairs x = oneChair(0, 0);
            x.one(0, wanted, 0);
            Check.due("sits behind " + wanted, x.of(wanted, 0, 0), 0);
            Check.due("has sat", x.of(wanted, 0, 1), wanted);
            Check.due("not yet risen", x.of(wanted, 0, 3), -1);
            Check.due("risen in " + wanted, x.of(wanted + 1, 0, 3), wanted);
            Check.due("sits no more", x.of(wanted + 1, 0, 0), -1);
        }
    }

    static void p14_minute_29_is_the_last_to_rise_in() {
        WarmChairs x = new WarmChairs();
        x.chair(0, 0);
        x.house(2, 30);
        x.one(20, 9, 0);
        Check.due("from 20 on, for 9", x.of(30, 0, 3), 29);
        x.wish(0, 0, 21);
        Check.due("from 21 on, for 9", x.of(30, 0, 3), -1);
        Check.due("sits yet", x.of(30, 0, 0), 0);
        Check.due("has sat 9", x.of(30, 0, 1), 9);
        x.wish(0, 0, 28);
        x.wish(0, 1, 1);
        Check.due("from 28 on, for 1", x.of(30, 0, 3), 29);
        x.wish(0, 0, 29);
        Check.due("from 29 on, for 1", x.of(30, 0, 3), -1);
        Check.due("has sat 1", x.of(30, 0, 1), 1);
    }

    static void p14_who_has_risen_never_wants_again() {
        WarmChairs x = new WarmChairs();
        x.chair(0, 0);
        x.house(2, 30);
        x.one(0, 1, 9);
        Check.due("risen in 1", x.of(30, 0, 3), 1);
        Check.due("SAT", x.of(30, 0, 1), 1);
        Check.due("STOOD", x.of(30, 0, 2), 0);
        Check.due("sits on none", x.of(30, 0, 0), -1);
    }

    static void p14_who_rises_leaves_the_chair_to_the_next_in_the_same_minute() {
        WarmChairs x = oneChair(0, 0);
        x.one(0, 2, 0);
        x.one(1, 2, 0);
        Check.law(x, law(1));
        Check.due("one 0 rises in 2", x.of(3, 0, 3), 2);
        Check.due("one 1 sits behind 3", x.of(3, 1, 0), 0);
        Check.due("one 1 stood in 1 alone", x.of(30, 1, 2), 1);
        Check.due("one 1 rises in 4", x.of(30, 1, 3), 4);
    }

    static void p14_all_rise_ahead_of_any_who_sits_down() {
        // One 1 rises in 2, by a number behind that of one 0, who wants from 2 on.
        WarmChairs x = oneChair(0, 0);
        x.one(2, 1, 0);
        x.one(0, 2, 0);
        Check.law(x, law(1));
        Check.due("one 0 does not stand", x.of(30, 0, 2), 0);
        Check.due("one 0 rises in 3", x.of(30, 0, 3), 3);
    }

    // ---- how long a chair keeps warm

    /** One sits 0 .. 1 and rises in 2; whether another, who comes in a minute, finds the chair warm. */
    private static void warmIn(String why, WarmChairs x, int keeps) {
        x.one(0, 2, 0);
        x.one(2, 1, 0);
        for (int from = 2; from < 30; from++) {
            x.wish(1, 0, from);
            Check.due(why + ", from " + from, x.of(30, 1, 4), from < 2 + keeps ? 0 : -1);
        }
    }

    private static void keeps(int kind, int more, int warm, int keeps) {
        WarmChairs x = oneChair(kind, more);
        Check.law(x, law(warm));
        warmIn("kind " + kind + " more " + more + " warm " + warm, x, keeps);
        Check.due("TILL by it", x.chairOf(3, 0, 1), Math.max(0, keeps - 1));
    }

    static void p14_a_chair_is_warm_in_minutes_below_till() {
        for (int warm = 0; warm <= 28; warm++) keeps(0, 9, warm, warm);
    }

    static void p14_a_cushioned_keeps_more_more() {
        keeps(1, 0, 0, 0);
        keeps(1, 0, 5, 5);
        keeps(1, 1, 0, 1);
        keeps(1, 9, 0, 9);
        keeps(1, 9, 5, 14);
    }

    static void p14_half_of_a_draughty_is_cut() {
        keeps(2, 9, 0, 0);
        keeps(2, 9, 1, 0);
        keeps(2, 9, 2, 1);
        keeps(2, 9, 3, 1);
        keeps(2, 9, 4, 2);
        keeps(2, 9, 99, 49);
    }

    static void p14_a_stool_of_one_who_sat_less_than_more_is_cold() {
        // One sat 2: with more 3 that is less, with 2 and below it is not.
        keeps(4, 3, 8, 0);
        keeps(4, 9, 8, 0);
        keeps(4, 2, 8, 8);
        keeps(4, 1, 8, 8);
        keeps(4, 0, 8, 8);
    }

    static void p14_a_stool_keeps_twice_a_draughtys() {
        keeps(4, 0, 0, 0);
        keeps(4, 0, 1, 0);
        keeps(4, 0, 2, 2);
        keeps(4, 0, 3, 2);
        keeps(4, 0, 9, 8);
        keeps(4, 0, 99, 98);
    }

    static void p14_a_stool_of_one_who_sat_1_and_9() {
        for (int sat : new int[] {1, 9}) {
            for (int more = 0; more <= 9; more++) {
                WarmChairs x = oneChair(4, more);
                x.one(0, sat, 0);
                Check.law(x, law(8));
                Check.due("sat " + sat + " more " + more, x.chairOf(sat + 1, 0, 1), sat < more ? 0 : 7);
            }
        }
    }

    static void p14_a_bench_keeps_as_a_chair_does() {
        keeps(5, 9, 0, 0);
        keeps(5, 9, 7, 7);
        keeps(5, 9, 1, 1);
    }

    static void p14_a_stove_keeps_as_a_cushioned_does() {
        for (int more : new int[] {1, 9}) {
            WarmChairs x = oneChair(3, more);
            x.one(0, 2, 0);
            Check.law(x, law(5));
            Check.due("TILL by more " + more, x.chairOf(3, 0, 1), 5 + more - 1);
        }
    }

    static void p14_warm_says_0_to_99() {
        String[] says = {"-1", "-9999", "0", "99", "100", "9999", "2048*1024*1024", "2048*1024*1024-1"};
        int[] due = {0, 0, 0, 98, 98, 98, 0, 98};
        for (int k = 0; k < says.length; k++) {
            WarmChairs x = oneChair(0, 0);
            x.one(0, 1, 0);
            Check.law(x, "warm " + says[k] + ";first 0;costs 0;");
            Check.due("warm " + says[k], x.chairOf(2, 0, 1), due[k]);
        }
    }

    static void p14_warm_below_0_is_0_ahead_of_the_kind() {
        WarmChairs x = oneChair(1, 9);
        x.one(0, 1, 0);
        Check.law(x, "warm -5;first 0;costs 0;");
        Check.due("a cushioned: 0 and 9", x.chairOf(2, 0, 1), 8);
    }

    static void p14_names_of_warm_at_their_ends() {
        // One 0 sits 0 .. 8; one 1 stands from 0 on, sits 9 .. 17 and rises in 18 from the sixth chair.
        String[] names = {"fat", "more", "sat", "stood", "minute", "number"};
        int[] due = {9, 9, 9, 9, 18, 5};
        for (int k = 0; k < 6; k++) {
            WarmChairs x = new WarmChairs();
            Edges.chairs(x, 5);
            x.chair(0, 9);
            Edges.settings(x, 0, 32, 1);
            x.one(0, 9, 0);
            x.one(0, 9, 9);
            Check.law(x, "warm " + names[k] + "+(minute=9);first number;costs 0;");
            // By each name one 0 leaves it warm for one minute at least, but for fat 0 and stood 0: there by (minute=9).
            Check.due("risen in 18 by " + names[k], x.of(30, 1, 3), 18);
            Check.due("TILL by " + names[k], x.chairOf(19, 5, 1), due[k] - 1);
        }
    }

    // ---- a stove lets, a bench is warm by others

    static void p14_a_stove_lets_in_minutes_below_more() {
        for (int more = 0; more <= 9; more++) {
            WarmChairs x = new WarmChairs();
            x.chair(3, more);
            x.house(1, 0);
            x.one(0, 1, 0);
            for (int from = 0; from <= 10; from++) {
                x.wish(0, 0, from);
                Check.due("more " + more + ", from " + from, x.of(30, 0, 4), from < more ? 0 : -1);
            }
        }
    }

    static void p14_a_stove_lets_no_one_behind_more_though_warm_at_first() {
        WarmChairs x = new WarmChairs();
        x.chair(3, 4);
        x.house(2, 30);
        x.one(3, 1, 0);
        Check.due("in 3", x.of(30, 0, 4), 0);
        x.wish(0, 0, 4);
        Check.due("in 4", x.of(30, 0, 4), -1);
    }

    static void p14_one_who_sits_on_a_stove_may_sit_past_more() {
        WarmChairs x = new WarmChairs();
        x.chair(3, 1);
        x.house(1, 0);
        x.one(0, 9, 0);
        Check.due("risen in 9", x.of(30, 0, 3), 9);
    }

    static void p16_a_stove_is_warm_in_every_minute() {
        for (int more : new int[] {0, 9}) {
            WarmChairs x = new WarmChairs();
            x.chair(3, more);
            x.house(1, 0);
            for (int n = 0; n <= 30; n++) Check.due("more " + more + " in " + n, x.all(n, 3), 1);
        }
    }

    /** Six benches, of which one is warm at first for one minute, and five who come in minute 0. */
    private static WarmChairs benches(int warm) {
        WarmChairs x = new WarmChairs();
        for (int c = 0; c < 6; c++) x.chair(5, 0);
        Edges.settings(x, 0, 1 << warm, 1);
        for (int p = 0; p < 5; p++) x.one(0, 9, 0);
        return x;
    }

    static void p14_a_bench_at_each_place_warms_those_beside_by_then() {
        // The first that is warm by then is taken: from the warm one down to 0, and then on behind it.
        for (int warm = 0; warm < 6; warm++) {
            WarmChairs x = benches(warm);
            for (int p = 0; p < 5; p++) {
                int due = p <= warm ? warm - p : p;
                Check.due("warm " + warm + ": one " + p, x.of(1, p, 0), due);
            }
        }
    }

    static void p16_a_bench_is_warm_by_either_beside_it_alone() {
        for (int sat = 0; sat < 6; sat++) {
            WarmChairs x = new WarmChairs();
            for (int c = 0; c < 6; c++) x.chair(5, 0);
            Edges.settings(x, 0, 1 << sat, 1);
            x.one(0, 9, 0);
            int due = (sat > 0 ? 1 << (sat - 1) : 0) | (sat < 5 ? 1 << (sat + 1) : 0);
            Check.due("sat on " + sat, x.all(2, 3), due);
            Check.due("behind it none", x.all(30, 3), 0);
        }
    }

    static void p16_a_bench_alone_is_never_warm_by_itself() {
        WarmChairs x = oneChair(5, 9);
        x.one(0, 9, 0);
        Check.due("warm in 0", x.all(0, 3), 1);
        Check.due("sat on, not warm", x.all(1, 3), 0);
    }

    static void p16_only_a_bench_is_warm_by_those_beside() {
        for (int kind : new int[] {0, 1, 2, 4, 5}) {
            WarmChairs x = new WarmChairs();
            x.chair(0, 0);
            x.chair(kind, 9);
            x.house(2, 1);
            x.one(0, 9, 0);
            Check.due("kind " + kind, x.all(2, 3), kind == 5 ? 2 : 0);
        }
    }

    static void p14_a_bench_is_cold_again_when_the_one_beside_rises() {
        WarmChairs x = new WarmChairs();
        x.chair(0, 0);
        x.chair(5, 0);
        x.house(2, 1);
        x.one(0, 4, 0);
        x.one(3, 1, 0);
        Check.law(x, law(0));
        Check.due("in 3, the last minute", x.of(30, 1, 4), 1);
        x.wish(1, 0, 4);
        Check.due("in 4 one 0 rises first", x.of(30, 1, 4), -1);
    }

    // ---- who goes first, which chair

    /** Four who come in minute 0 to four chairs: who sits where is who goes first. */
    private static void order(String first, int... due) {
        WarmChairs x = new WarmChairs();
        Edges.chairs(x, 4);
        Edges.settings(x, 0, 15, 1);
        int[] fat = {2, 0, 9, 0};
        for (int p = 0; p < 4; p++) x.one(0, 1, fat[p]);
        Check.law(x, "warm 0;first " + first + ";costs 0;");
        for (int p = 0; p < 4; p++) Check.due("first " + first + ": one " + p, x.of(1, p, 0), due[p]);
    }

    static void p14_the_least_first_goes_ahead_of_like_ones_by_numbers() {
        order("0", 0, 1, 2, 3);
        order("fat", 2, 0, 3, 1);
        order("9-fat", 1, 2, 0, 3);
        order("3-number", 3, 2, 1, 0);
    }

    static void p14_first_below_0_and_above_99_are_alike() {
        order("0-fat", 0, 1, 2, 3);
        order("90+fat", 2, 0, 3, 1);
        order("91+fat", 2, 0, 3, 1);
        order("97+fat", 2, 0, 3, 1);
        order("98+fat", 2, 0, 3, 1);
        order("99+fat", 0, 1, 2, 3);
        order("fat-2", 0, 1, 3, 2);
        order("fat-3", 0, 1, 3, 2);
        order("fat-9", 0, 1, 2, 3);
    }

    static void p14_names_of_first_at_their_ends() {
        // In minute 0 nobody has stood or sat; more is 0, number the one's.
        order("minute*9-number", 0, 1, 2, 3);
        order("(number=3)*more+(number=0)", 3, 0, 1, 2);
        order("(number=0)*(sat=0)*(stood=0)*(minute=0)*(more=0)", 3, 0, 1, 2);
    }

    static void p14_more_people_than_chairs_by_turns() {
        WarmChairs x = oneChair(0, 0);
        for (int p = 0; p < 5; p++) x.one(0, 1, 0);
        Check.law(x, "warm 1;first 9-number;costs 0;");
        for (int p = 0; p < 5; p++) Check.due("one " + p + " rises in", x.of(30, p, 3), 5 - p);
        for (int p = 0; p < 5; p++) Check.due("one " + p + " stood", x.of(30, p, 2), 4 - p);
    }

    /** Three chairs, of TILL 4, 5 and 3 in minute 2: where one who comes then sits down. */
    private static void style(int style, int due) {
        WarmChairs x = new WarmChairs();
        Edges.chairs(x, 3);
        Edges.settings(x, style, 7, 1);
        x.one(0, 1, 3);
        x.one(0, 1, 4);
        x.one(0, 1, 2);
        x.one(2, 1, 0);
        Check.law(x, "warm fat;first 0;costs 0;");
        Check.due("style " + style, x.of(30, 3, 4), due);
    }

    static void p14_style_0_the_first_1_the_greatest_2_the_least_till() {
        style(0, 0);
        style(1, 1);
        style(2, 2);
    }

    static void p14_of_like_tills_the_first_by_each_style() {
        for (int style = 0; style < 3; style++) {
            WarmChairs x = new WarmChairs();
            Edges.chairs(x, 6);
            Edges.settings(x, style, 60, 9);
            for (int p = 0; p < 4; p++) x.one(0, 9, 0);
            for (int p = 0; p < 4; p++) Check.due("style " + style + ": one " + p, x.of(1, p, 0), p + 2);
        }
    }

    static void p14_a_stove_of_till_0_is_the_least_and_not_the_greatest() {
        int[] due = {0, 1, 0};
        for (int style = 0; style < 3; style++) {
            WarmChairs x = new WarmChairs();
            x.chair(3, 9);
            x.chair(0, 0);
            Edges.settings(x, style, 2, 1);
            x.one(0, 1, 0);
            Check.due("style " + style, x.of(1, 0, 0), due[style]);
        }
    }

    static void p14_what_is_cold_or_sat_on_or_does_not_let_is_passed_by() {
        for (int style = 0; style < 3; style++) {
            WarmChairs x = new WarmChairs();
            x.chair(0, 0);
            x.chair(3, 0);
            x.chair(0, 0);
            x.chair(0, 0);
            Edges.settings(x, style, 2 | 4 | 8, 9);
            x.one(0, 9, 0);
            x.one(1, 9, 0);
            x.one(2, 9, 0);
            Check.due("chair 0 is cold, 1 does not let", x.of(30, 0, 4), 2);
            Check.due("2 is sat on", x.of(30, 1, 4), 3);
            Check.due("none is left", x.of(9, 2, 4), -1);
        }
    }
}
