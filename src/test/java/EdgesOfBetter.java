/** The edges of promises 18 to 24: begin, take, order, invite, late, lent, move. */
final class EdgesOfBetter {
    private static final int BAD = WarmChairs.BAD;
    private static final String COLD = "warm 0;first 0;costs 0;";

    private static int froms(WarmChairs x) {
        int digits = 0;
        for (int p = 0; p < x.count(3); p++) digits = digits * 10 + x.oneTold(p, 0);
        return digits;
    }

    // ---- 18: begin

    private static void beginIs(String when, WarmChairs x, int which, int many) {
        Check.due("which, " + when, x.begin(0), which);
        Check.due("how many, " + when, x.begin(1), many);
    }

    static void p18_what_0_and_1() {
        Edges.ends(Edges::rich, (x, v) -> x.begin(v), 0, 1, BAD);
        Edges.ends(Edges::empty, (x, v) -> x.begin(v), 0, 1, BAD);
    }

    static void p18_nobody_needs_none() {
        beginIs("no chair", new WarmChairs(), 0, 0);
        WarmChairs x = new WarmChairs();
        Edges.chairs(x, 6);
        beginIs("six chairs", x, 0, 0);
    }

    static void p18_no_chair_is_none() {
        WarmChairs x = new WarmChairs();
        x.one(0, 1, 0);
        x.house(1, 63);
        beginIs("no chair", x, -1, -1);
    }

    static void p18_warm_for_0_minutes_is_none_for_1_is_one() {
        WarmChairs x = new WarmChairs();
        Edges.chairs(x, 6);
        x.one(0, 1, 0);
        x.house(2, 0);
        beginIs("0 minutes", x, -1, -1);
        x.house(2, 1);
        beginIs("1 minute", x, 1, 1);
    }

    static void p18_the_fewest_ahead_of_the_least_as_bits() {
        WarmChairs x = new WarmChairs();
        Edges.chairs(x, 3);
        Edges.people(x, 2);
        Check.law(x, "warm 9*(number=2);first 0;costs 0;");
        // Chairs 0 and 1 serve one each, chair 2 serves both, one behind the other.
        beginIs("chair 2", x, 4, 1);
    }

    static void p18_of_like_ones_the_least_as_bits() {
        WarmChairs x = new WarmChairs();
        Edges.chairs(x, 6);
        for (int p = 0; p < 5; p++) x.one(0, 9, 0);
        Check.law(x, COLD);
        beginIs("five of six", x, 31, 5);
        x.mend(0, 3, 0);
        beginIs("chair 0 lets no one", x, 62, 5);
        x.mend(5, 3, 0);
        beginIs("only four let", x, -1, -1);
    }

    static void p18_only_chairs_that_are_there() {
        WarmChairs x = new WarmChairs();
        Edges.chairs(x, 4);
        for (int p = 0; p < 5; p++) x.one(0, 9, 0);
        Check.law(x, COLD);
        beginIs("four", x, -1, -1);
        Edges.chairs(x, 1);
        beginIs("five", x, 31, 5);
    }

    static void p18_all_must_have_risen_by_the_end() {
        WarmChairs x = new WarmChairs();
        x.chair(0, 0);
        x.house(2, 30);
        x.one(20, 9, 0);
        beginIs("in 29", x, 1, 1);
        x.wish(0, 0, 21);
        beginIs("in 30", x, -1, -1);
    }

    static void p18_a_stove_needs_none() {
        WarmChairs x = new WarmChairs();
        x.chair(3, 1);
        x.one(0, 9, 0);
        beginIs("lets in 0", x, 0, 0);
        x.mend(0, 3, 0);
        beginIs("never lets", x, -1, -1);
    }

    static void p18_asking_changes_nothing() {
        Edges.keeps("begin(0)", Edges::rich, x -> x.begin(0), 0);
        Edges.keeps("begin(1)", Edges::rich, x -> x.begin(1), 0);
        Edges.keeps("begin(0)", Edges::empty, x -> x.begin(0), 0);
    }

    // ---- 19: take

    private static void takeIs(String when, WarmChairs x, int style, int rise, int stood) {
        Check.due("STYLE, " + when, x.take(0), style);
        Check.due("RISE, " + when, x.take(1), rise);
        Check.due("STOOD, " + when, x.take(2), stood);
    }

    static void p19_what_0_to_2() {
        Edges.ends(Edges::rich, (x, v) -> x.take(v), 0, 2, BAD);
        Edges.ends(Edges::empty, (x, v) -> x.take(v), 0, 2, BAD);
    }

    static void p19_nobody() {
        takeIs("nothing there", new WarmChairs(), 0, 0, 0);
    }

    static void p19_of_like_ones_the_first_whatever_it_is() {
        for (int style = 0; style < 3; style++) {
            WarmChairs x = new WarmChairs();
            Edges.chairs(x, 2);
            x.one(3, 2, 0);
            x.house(0, style);
            takeIs("style " + style, x, 0, 1, 0);
            Check.due("stays", x.count(0), style);
        }
    }

    static void p19_nobody_rises_by_any() {
        WarmChairs x = new WarmChairs();
        for (int p = 0; p < 5; p++) x.one(0, 1, 0);
        takeIs("no chair", x, 0, 0, 150);
    }

    static void p19_the_first_that_is_better_than_another() {
        WarmChairs x = new WarmChairs();
        x.chair(3, 2);
        x.chair(0, 0);
        x.chair(0, 0);
        Edges.settings(x, 0, 7, 1);
        x.one(0, 1, 3);
        x.one(0, 1, 9);
        x.one(0, 1, 1);
        x.one(1, 9, 0);
        x.one(4, 1, 0);
        Check.law(x, "warm fat-2*(number=0);first 0;costs 0;");
        // In 1: TILL of the stove 1 and 3 - 2 and 2 more is 4, of chair 1 10, of chair 2 2. One 3 sits down
        // by 0 on the stove, by 1 on chair 1, by 2 on chair 2; one 4 comes in 4 and needs chair 1.
        takeIs("0 and 2 are alike", x, 0, 5, 0);
        x.mend(0, 3, 1);
        takeIs("the stove lets no more: 2", x, 2, 5, 0);
    }

    static void p19_style_1_alone_is_better() {
        WarmChairs x = new WarmChairs();
        x.chair(3, 3);
        x.chair(0, 0);
        Edges.settings(x, 0, 2, 2);
        x.one(0, 9, 0);
        x.one(2, 1, 0);
        takeIs("1", x, 1, 2, 0);
    }

    static void p19_style_2_alone_is_better() {
        WarmChairs x = new WarmChairs();
        x.chair(0, 0);
        x.chair(3, 2);
        x.one(0, 9, 0);
        x.one(6, 9, 0);
        Check.law(x, COLD);
        takeIs("2", x, 2, 2, 0);
    }

    static void p19_of_as_many_who_rise_less_stood() {
        WarmChairs x = new WarmChairs();
        Edges.chairs(x, 2);
        Edges.settings(x, 0, 3, 1);
        x.one(0, 1, 2);
        x.one(0, 1, 9);
        x.one(1, 9, 0);
        x.one(3, 9, 0);
        Check.law(x, "warm fat+9*(sat=9);first 0;costs 0;");
        // In 1: TILL of chair 0 is 3, of chair 1 is 10. By 0, 2 one 2 sits on 0, one 3 on 1. By 1 one 2 sits
        // on 1, and one 3, from 3 on, finds 0 cold, and waits for 1 till 10.
        takeIs("0", x, 0, 4, 0);
        x.house(0, 1);
        Check.due("by 1 as many rise", x.all(30, 0), 4);
        Check.due("by 1 more is stood", x.all(30, 1), 7);
        takeIs("0, though it is 1", x, 0, 4, 0);
    }

    static void p19_asking_changes_nothing() {
        Edges.keeps("take(1)", Edges::rich, x -> x.take(1), 3);
        Edges.keeps("take(2)", Edges::empty, x -> x.take(2), 0);
    }

    // ---- 20: order

    private static void orderIs(String when, WarmChairs x, int whose, int rise, int stood) {
        Check.due("whose, " + when, x.order(0), whose);
        Check.due("RISE, " + when, x.order(1), rise);
        Check.due("STOOD, " + when, x.order(2), stood);
    }

    static void p20_what_0_to_2() {
        Edges.ends(Edges::rich, (x, v) -> x.order(v), 0, 2, BAD);
        Edges.ends(Edges::empty, (x, v) -> x.order(v), 0, 2, BAD);
    }

    static void p20_nobody_is_0() {
        orderIs("nobody", new WarmChairs(), 0, 0, 0);
    }

    static void p20_one_alone_is_0() {
        WarmChairs x = new WarmChairs();
        x.chair(0, 0);
        x.one(8, 1, 0);
        orderIs("one", x, 0, 1, 0);
        x.wish(0, 0, 9);
        orderIs("one, too late", x, 0, 0, 21);
    }

    static void p20_of_like_ones_the_first_by_rows() {
        WarmChairs x = new WarmChairs();
        for (int n = 1, due = 0; n <= 5; n++) {
            x.one(4, 1, 0);
            orderIs(n + " alike", x, due, 0, 26 * n);
            due = due * 10 + n;
        }
    }

    static void p20_the_last_of_all_rows() {
        WarmChairs x = new WarmChairs();
        x.chair(0, 0);
        x.house(2, 30);
        int[] longs = {5, 4, 3, 2, 1};
        int[] froms = {0, 1, 3, 6, 10};
        for (int p = 0; p < 5; p++) x.one(froms[p], longs[p], 0);
        orderIs("the last", x, 43210, 5, 0);
    }

    static void p20_a_row_between() {
        // Each comes as the one ahead rises: one 2 (1), 0 (2), 3 (3), 1 (4), and then one 4 (5).
        WarmChairs x = new WarmChairs();
        x.chair(0, 0);
        x.house(2, 30);
        int[] longs = {2, 4, 1, 3, 5};
        int[] froms = {10, 6, 3, 1, 0};
        for (int p = 0; p < 5; p++) x.one(froms[p], longs[p], 0);
        // FROM 0 is one 4's, 1 one 3's, 3 one 2's, 6 one 1's, 10 one 0's.
        orderIs("between", x, 31420, 5, 0);
    }

    static void p20_like_froms_are_told_by_the_first() {
        WarmChairs x = new WarmChairs();
        x.chair(0, 0);
        x.house(2, 30);
        x.one(0, 9, 0);
        x.one(2, 1, 0);
        x.one(2, 1, 0);
        // One 1 goes in 0, one 0 in 2, one 2 waits for it: whose of the two FROMs they have is alike.
        orderIs("of two rows alike", x, 102, 3, 9);
    }

    static void p20_more_rise_ahead_of_less_stood() {
        // As it is nobody stands, but one 1 sits till the end; changed, one 1 rises, and one 0 stands.
        WarmChairs x = new WarmChairs();
        Edges.chairs(x, 1);
        x.house(2, 30);
        x.one(19, 1, 0);
        x.one(21, 9, 0);
        Check.due("as it is", x.all(30, 0) * 100 + x.all(30, 1), 100);
        orderIs("changed: one 1 rises in 28, one 0 waits", x, 10, 2, 7);
    }

    static void p20_asking_changes_nothing() {
        Edges.keeps("order(1)", Edges::rich, x -> x.order(1), 3);
        Edges.keeps("order(0)", Edges::empty, x -> x.order(0), 0);
    }

    // ---- 21: invite

    static void p21_nobody() {
        Edges.keeps("invite()", Edges::empty, x -> x.invite(), 0);
    }

    static void p21_of_like_ones_all_stays() {
        Edges.keeps("alike", x -> Edges.people(x, 5), x -> x.invite(), 0);
    }

    static void p21_one_alone_stays() {
        Edges.keeps("one", x -> {
            x.chair(0, 0);
            x.one(8, 1, 0);
        }, x -> x.invite(), 1);
    }

    static void p21_five_change() {
        WarmChairs x = new WarmChairs();
        x.chair(0, 0);
        x.house(2, 30);
        int[] longs = {2, 4, 1, 3, 5};
        int[] froms = {9, 6, 3, 1, 0};
        for (int p = 0; p < 5; p++) x.one(froms[p], longs[p], p);
        Check.due("whose", x.order(0), 31420);
        Check.due("all rise", x.invite(), 5);
        Check.due("FROM of all", froms(x), 16039);
        for (int p = 0; p < 5; p++) {
            Check.due("LONG of " + p, x.oneTold(p, 1), longs[p]);
            Check.due("FAT of " + p, x.oneTold(p, 2), p);
        }
        Check.due("STOOD is as order() told", x.all(30, 1), x.order(2));
        Check.due("none is better now", x.order(0), 1234);
    }

    static void p21_the_image_is_as_it_was() {
        WarmChairs x = new WarmChairs();
        x.chair(0, 0);
        x.house(2, 30);
        x.one(0, 9, 0);
        x.one(1, 1, 0);
        x.image();
        x.invite();
        Check.due("changed", froms(x), 10);
        x.back();
        Check.due("as in the image", froms(x), 1);
    }

    // ---- 22: late

    static void p22_the_first_and_the_last_of_three() {
        Edges.ends(Edges::rich, (x, v) -> x.late(v, 0), 0, 2, -5);
    }

    static void p22_the_first_and_the_last_of_five() {
        Edges.ends(Edges::full, (x, v) -> x.late(v, 1), 0, 4, -5);
    }

    static void p22_nobody_is_there() {
        for (int p : new int[] {-1, 0, 1}) Edges.keeps("late(" + p + ", 0)", Edges::empty, x -> x.late(p, 0), -5);
    }

    static void p22_what_0_and_1() {
        Edges.ends(Edges::rich, (x, v) -> x.late(1, v), 0, 1, -7);
    }

    static void p22_no_such_one_ahead_of_what() {
        Edges.keeps("late(3, 2)", Edges::rich, x -> x.late(3, 2), -5);
        Edges.keeps("late(-1, -1)", Edges::rich, x -> x.late(-1, -1), -5);
    }

    static void p22_none_is_minus_1() {
        WarmChairs x = new WarmChairs();
        x.one(0, 1, 0);
        Check.due("the last", x.late(0, 0), -1);
        Check.due("the first", x.late(0, 1), -1);
    }

    static void p22_the_last_by_each_long() {
        for (int wanted = 1; wanted <= 9; wanted++) {
            WarmChairs x = new WarmChairs();
            x.chair(0, 0);
            x.house(2, 30);
            x.one(29, wanted, 0);
            Check.due("the last, LONG " + wanted, x.late(0, 0), 29 - wanted);
            Check.due("the first, LONG " + wanted, x.late(0, 1), 0);
        }
    }

    static void p22_the_last_by_each_number_of_minutes() {
        for (int minutes = 0; minutes <= 30; minutes++) {
            WarmChairs x = new WarmChairs();
            x.chair(0, 0);
            x.house(2, minutes);
            x.one(5, 1, 0);
            Check.due("the last, warm for " + minutes, x.late(0, 0), Math.min(28, minutes - 1));
            Check.due("the first, warm for " + minutes, x.late(0, 1), minutes == 0 ? -1 : 0);
        }
    }

    static void p22_one_minute_alone_is_the_first_and_the_last() {
        WarmChairs x = new WarmChairs();
        x.chair(0, 0);
        x.house(2, 1);
        x.one(17, 3, 0);
        Check.due("the last", x.late(0, 0), 0);
        Check.due("the first", x.late(0, 1), 0);
    }

    static void p22_the_first_need_not_be_0() {
        // Those who stood go last: one 1 must not come ahead of one 2, who comes in 4.
        WarmChairs x = new WarmChairs();
        x.chair(0, 0);
        x.house(2, 1);
        x.one(0, 5, 0);
        x.one(0, 3, 0);
        x.one(4, 9, 0);
        Check.law(x, "warm sat=5;first stood;costs 0;");
        Check.due("the first", x.late(1, 1), 4);
        Check.due("the last", x.late(1, 0), 5);
    }

    static void p22_only_this_one_needs_to_rise() {
        WarmChairs x = new WarmChairs();
        x.chair(0, 0);
        x.house(2, 1);
        x.one(0, 1, 0);
        x.one(0, 1, 0);
        Check.law(x, COLD);
        Check.due("one 0, ahead of one 1", x.late(0, 0), 0);
        Check.due("one 1, never ahead", x.late(1, 0), -1);
    }

    static void p22_asking_changes_nothing() {
        Edges.keeps("late(1, 1)", Edges::rich, x -> x.late(1, 1), 0);
        Edges.keeps("late(0, 0)", x -> {
            x.chair(0, 0);
            x.one(29, 1, 0);
        }, x -> x.late(0, 0), 8);
    }

    // ---- 23: lent

    static void p23_the_first_and_the_last_of_three() {
        Edges.ends(Edges::rich, (x, v) -> x.lent(v, 0), 0, 2, -100000);
    }

    static void p23_the_first_and_the_last_of_six() {
        Edges.ends(Edges::full, (x, v) -> x.lent(v, 1), 0, 5, -100000);
    }

    static void p23_no_chair_is_there() {
        for (int c : new int[] {-1, 0, 1}) Edges.keeps("lent(" + c + ", 0)", Edges::empty, x -> x.lent(c, 0), -100000);
    }

    static void p23_what_0_and_1() {
        Edges.ends(Edges::rich, (x, v) -> x.lent(1, v), 0, 1, -100000);
    }

    static void p23_nobody_misses_it() {
        WarmChairs x = new WarmChairs();
        Edges.chairs(x, 6);
        for (int c = 0; c < 6; c++) Check.due("lent(" + c + ")", x.lent(c, 0) * 10 + x.lent(c, 1), 0);
    }

    static void p23_the_sixth_alone_is_worth_all() {
        WarmChairs x = new WarmChairs();
        Edges.chairs(x, 6);
        Edges.settings(x, 0, 32, 1);
        for (int p = 0; p < 5; p++) x.one(0, 1, 0);
        Check.due("as it is", x.all(30, 0) * 1000 + x.all(30, 1), 5010);
        Check.due("five fewer", x.lent(5, 0), 5);
        Check.due("150 less 10 more is stood", x.lent(5, 1), 140);
        Check.due("chair 0 is worth nothing", x.lent(0, 0) * 10 + x.lent(0, 1), 0);
    }

    static void p23_below_0_where_it_does_harm() {
        WarmChairs x = new WarmChairs();
        x.chair(2, 0);
        x.chair(0, 0);
        Edges.settings(x, 0, 3, 1);
        x.one(0, 4, 0);
        x.one(5, 4, 0);
        Check.law(x, "warm 3;first 0;costs 0;");
        Check.due("one more rises", x.lent(0, 0), -1);
        Check.due("25 less is stood", x.lent(0, 1), -25);
    }

    static void p23_its_neighbours_numbers_stay() {
        // Without bench 1, bench 2 is not beside chair 0.
        WarmChairs x = new WarmChairs();
        x.chair(0, 0);
        x.chair(5, 0);
        x.chair(5, 0);
        Edges.settings(x, 0, 1, 1);
        for (int p = 0; p < 3; p++) x.one(0, 9, 0);
        Check.law(x, COLD);
        Check.due("three rise", x.all(30, 0), 3);
        Check.due("without bench 1", x.lent(1, 0), 2);
        Check.due("without bench 2", x.lent(2, 0), 1);
        Check.due("without chair 0", x.lent(0, 0), 3);
    }

    static void p23_asking_changes_nothing() {
        Edges.keeps("lent(2, 0)", Edges::rich, x -> x.lent(2, 0), 0);
        Edges.keeps("lent(5, 0)", x -> {
            Edges.chairs(x, 6);
            x.house(1, 32);
            x.one(0, 1, 0);
        }, x -> x.lent(5, 0), 1);
    }

    // ---- 24: move

    private static void moveIs(String when, WarmChairs x, int which, int rise, int stood) {
        Check.due("which, " + when, x.move(0), which);
        Check.due("RISE, " + when, x.move(1), rise);
        Check.due("STOOD, " + when, x.move(2), stood);
    }

    static void p24_what_0_to_2() {
        Edges.ends(Edges::rich, (x, v) -> x.move(v), 0, 2, BAD);
        Edges.ends(Edges::empty, (x, v) -> x.move(v), 0, 2, BAD);
    }

    static void p24_no_two_chairs() {
        WarmChairs x = new WarmChairs();
        x.one(4, 1, 0);
        x.one(7, 1, 0);
        moveIs("no chair", x, -1, 0, 49);
        x.chair(0, 0);
        moveIs("one chair", x, -1, 2, 0);
        x.house(2, 5);
        x.wish(1, 0, 9);
        moveIs("one chair, as it is", x, -1, 1, 21);
    }

    static void p24_as_good_is_not_better() {
        WarmChairs x = new WarmChairs();
        Edges.chairs(x, 6);
        for (int p = 0; p < 5; p++) x.one(29, 9, 0);
        moveIs("all alike", x, -1, 0, 5);
    }

    /** Six chairs, of which one is warm at first; the cushioned one would serve one 1 as well. */
    private static void cushion(WarmChairs x, int warm, int cushioned) {
        for (int c = 0; c < 6; c++) x.chair(c == cushioned ? 1 : 2, 9);
        Edges.settings(x, 0, 1 << warm, 1);
        x.one(0, 1, 0);
        x.one(5, 1, 0);
        Check.law(x, "warm 2;first 0;costs 0;");
    }

    private static WarmChairs cushioned(int warm, int cushioned) {
        return Edges.made(x -> cushion(x, warm, cushioned));
    }

    static void p24_each_two_chairs() {
        for (int warm = 0; warm < 6; warm++) {
            for (int c = 0; c < 6; c++) {
                if (c == warm) continue;
                moveIs(warm + " and " + c, cushioned(warm, c), 10 * Math.min(warm, c) + Math.max(warm, c), 2, 0);
            }
            moveIs("none", cushioned(warm, warm), -1, 2, 0);
        }
    }

    static void p24_of_like_ones_the_first() {
        WarmChairs x = cushioned(3, 1);
        for (int c : new int[] {0, 2, 4, 5}) x.mend(c, 1, 9);
        moveIs("3 and any", x, 3, 2, 0);
        x.mend(0, 2, 9);
        moveIs("0 is like 3", x, 13, 2, 0);
        x.mend(1, 2, 9);
        x.mend(2, 2, 9);
        moveIs("3 and 4", x, 34, 2, 0);
    }

    static void p24_the_better_of_two_that_are_better() {
        // Chair 2 would keep 8 minutes, chair 4 keeps 11; as it is, chair 0 keeps 1.
        WarmChairs x = cushioned(0, 4);
        x.mend(2, 1, 6);
        x.wish(1, 0, 8);
        x.one(16, 1, 0);
        Check.due("as it is one rises", x.all(30, 0), 1);
        moveIs("by both all rise", x, 2, 3, 0);
        x.wish(2, 0, 19);
        moveIs("by 2 two rise, by 4 three", x, 4, 3, 0);
    }

    static void p24_less_stood_is_better_of_as_many_who_rise() {
        WarmChairs x = new WarmChairs();
        x.chair(0, 0);
        x.chair(0, 0);
        x.chair(5, 0);
        Edges.settings(x, 0, 1, 1);
        x.one(0, 9, 0);
        x.one(0, 9, 0);
        Check.due("as it is", x.all(30, 0) * 100 + x.all(30, 1), 209);
        moveIs("the bench beside chair 0", x, 12, 2, 0);
    }

    static void p24_asking_changes_nothing() {
        Edges.keeps("move(1)", Edges::rich, x -> x.move(1), 3);
        Edges.keeps("move(0), 3 and 5", x -> cushion(x, 3, 5), x -> x.move(0), 35);
    }
}
