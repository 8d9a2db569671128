/** The edges of promises 1 to 6: a new object, one, wish, oneTold, house, count. */
final class EdgesOfPeople {
    private static final int NONE = WarmChairs.NONE, BAD = WarmChairs.BAD, FULL = WarmChairs.FULL;

    private static int told(WarmChairs x, int p) {
        return x.oneTold(p, 0) * 100 + x.oneTold(p, 1) * 10 + x.oneTold(p, 2);
    }

    // ---- 1: a new object

    static void p01_no_people() {
        WarmChairs x = new WarmChairs();
        Check.due("count(3)", x.count(3), 0);
        Check.due("oneTold(0, 0)", x.oneTold(0, 0), -5);
        Check.due("of(0, 0, 0)", x.of(0, 0, 0), -5);
        Check.due("taken(0, 6)", x.taken(0, 6), -11);
        Check.due("the first is one 0", x.one(0, 1, 0), 0);
    }

    static void p01_no_chairs() {
        WarmChairs x = new WarmChairs();
        Check.due("count(4)", x.count(4), 0);
        Check.due("chairTold(0, 0)", x.chairTold(0, 0), -5);
        Check.due("chairOf(0, 0, 0)", x.chairOf(0, 0, 0), -5);
        Check.due("taken(5, 0)", x.taken(5, 0), -11);
        Check.due("the first is chair 0", x.chair(0, 0), 0);
    }

    static void p01_the_house_at_first() {
        WarmChairs x = new WarmChairs();
        Check.due("STYLE", x.count(0), 0);
        Check.due("WARM AT FIRST", x.count(1), 1);
        Check.due("for so many minutes", x.count(2), 9);
    }

    static void p01_text_0_is_there_and_the_law() {
        WarmChairs x = new WarmChairs();
        Check.due("one text", x.count(5), 1);
        Check.due("THE LAW", x.count(6), 0);
        Check.due("warm", x.asks(0, 45, 0, 0, 0), 12);
        Check.due("first", x.asks(1, 45, 0, 17, 0), 17);
        Check.due("costs", x.asks(2, 45, 236, 17, 0), 23);
        Check.due("the next is text 1", Check.text(x, "warm 1;first 1;costs 1;"), 1);
    }

    static void p01_the_tape_is_empty() {
        WarmChairs x = new WarmChairs();
        Check.due("count(7)", x.count(7), 0);
        Check.due("text()", x.text(), -100);
    }

    static void p01_all_sheets_are_missing() {
        WarmChairs x = new WarmChairs();
        for (int s = 0; s < 4; s++) {
            Check.due("cell of " + s, x.cell(s, 0, 0), -11);
            Check.due("judge of " + s, x.judge(s, 0), -11);
        }
    }

    static void p01_there_is_no_image() {
        Check.due("back()", new WarmChairs().back(), WarmChairs.STATE);
    }

    static void p01_a_new_object_is_its_own() {
        Edges.keeps("another object's calls", Edges::empty, x -> {
            Edges.made(Edges::full);
            return 0;
        }, 0);
    }

    // ---- 2: one

    static void p02_minute_0_to_29() {
        Edges.ends(Edges::rich, (x, v) -> x.one(v, 1, 0), 0, 29, BAD);
    }

    static void p02_minutes_1_to_9() {
        Edges.ends(Edges::rich, (x, v) -> x.one(0, v, 0), 1, 9, BAD);
    }

    static void p02_warms_0_to_9() {
        Edges.ends(Edges::rich, (x, v) -> x.one(0, 1, v), 0, 9, BAD);
    }

    static void p02_bad_on_a_new_object() {
        Edges.ends(Edges::empty, (x, v) -> x.one(v, 1, 0), 0, 29, BAD);
        Edges.ends(Edges::empty, (x, v) -> x.one(0, v, 0), 1, 9, BAD);
        Edges.ends(Edges::empty, (x, v) -> x.one(0, 1, v), 0, 9, BAD);
    }

    static void p02_the_least_is_kept() {
        WarmChairs x = new WarmChairs();
        Check.due("one(0, 1, 0)", x.one(0, 1, 0), 0);
        Check.due("told", told(x, 0), 10);
    }

    static void p02_the_most_is_kept() {
        WarmChairs x = new WarmChairs();
        Check.due("one(29, 9, 9)", x.one(29, 9, 9), 0);
        Check.due("told", told(x, 0), 2999);
    }

    static void p02_the_fifth_is_taken() {
        WarmChairs x = new WarmChairs();
        for (int p = 0; p < 5; p++) Check.due("one " + p, x.one(p, p + 1, p), p);
        Check.due("five", x.count(3), 5);
        for (int p = 0; p < 5; p++) Check.due("told of " + p, told(x, p), p * 111 + 10);
    }

    static void p02_the_sixth_is_full() {
        Edges.keeps("one(0, 1, 0)", Edges::full, x -> x.one(0, 1, 0), FULL);
        Edges.keeps("one(29, 9, 9)", Edges::full, x -> x.one(29, 9, 9), FULL);
    }

    static void p02_bad_ahead_of_full() {
        Edges.keeps("minute 30", Edges::full, x -> x.one(30, 1, 0), BAD);
        Edges.keeps("minute -1", Edges::full, x -> x.one(-1, 1, 0), BAD);
        Edges.keeps("minutes 0", Edges::full, x -> x.one(0, 0, 0), BAD);
        Edges.keeps("minutes 10", Edges::full, x -> x.one(0, 10, 0), BAD);
        Edges.keeps("warms -1", Edges::full, x -> x.one(0, 1, -1), BAD);
        Edges.keeps("warms 10", Edges::full, x -> x.one(0, 1, 10), BAD);
    }

    static void p02_room_again_behind_an_image_of_four() {
        WarmChairs x = new WarmChairs();
        Edges.people(x, 4);
        x.image();
        Check.due("the fifth", x.one(5, 5, 5), 4);
        Check.due("the sixth", x.one(5, 5, 5), FULL);
        x.back();
        Check.due("the fifth anew", x.one(6, 6, 6), 4);
        Check.due("told", told(x, 4), 666);
    }

    // ---- 3: wish

    static void p03_the_first_and_the_last_of_three() {
        Edges.ends(Edges::rich, (x, v) -> x.wish(v, 0, 5), 0, 2, -5);
    }

    static void p03_the_first_and_the_last_of_five() {
        Edges.ends(Edges::full, (x, v) -> x.wish(v, 2, 5), 0, 4, -5);
    }

    static void p03_nobody_is_there() {
        for (int p : new int[] {-1, 0, 1}) Edges.keeps("wish(" + p + ")", Edges::empty, x -> x.wish(p, 0, 0), -5);
    }

    static void p03_what_0_to_2() {
        Edges.ends(Edges::rich, (x, v) -> x.wish(1, v, 4), 0, 2, -7);
    }

    static void p03_from_0_to_29() {
        Edges.ends(Edges::rich, (x, v) -> x.wish(1, 0, v), 0, 29, -7);
    }

    static void p03_long_1_to_9() {
        Edges.ends(Edges::rich, (x, v) -> x.wish(1, 1, v), 1, 9, -7);
    }

    static void p03_fat_0_to_9() {
        Edges.ends(Edges::rich, (x, v) -> x.wish(1, 2, v), 0, 9, -7);
    }

    static void p03_no_such_one_ahead_of_what_and_v() {
        Edges.keeps("what", Edges::rich, x -> x.wish(3, 3, 1), -5);
        Edges.keeps("v", Edges::rich, x -> x.wish(-1, 0, 30), -5);
        Edges.keeps("both", Edges::rich, x -> x.wish(3, -1, -1), -5);
    }

    static void p03_answers_what_was() {
        int[][] ends = {{0, 29}, {1, 9}, {0, 9}};
        WarmChairs x = new WarmChairs();
        x.one(3, 4, 5);
        x.one(6, 7, 8);
        for (int w = 0; w < 3; w++) {
            Check.due("the least", x.wish(0, w, ends[w][0]), 3 + w);
            Check.due("the most", x.wish(0, w, ends[w][1]), ends[w][0]);
            Check.due("as it is", x.wish(0, w, ends[w][1]), ends[w][1]);
        }
        Check.due("one 0", told(x, 0), 2999);
        Check.due("one 1 is as was", told(x, 1), 678);
    }

    static void p03_one_that_came_since_the_image_is_none() {
        WarmChairs x = new WarmChairs();
        Edges.people(x, 1);
        x.image();
        Edges.people(x, 1);
        Check.due("there", x.wish(1, 0, 7), 0);
        x.back();
        Check.due("none", x.wish(1, 0, 7), -5);
    }

    // ---- 4: oneTold

    static void p04_the_first_and_the_last_of_three() {
        Edges.ends(Edges::rich, (x, v) -> x.oneTold(v, 0), 0, 2, -5);
    }

    static void p04_the_first_and_the_last_of_five() {
        Edges.ends(Edges::full, (x, v) -> x.oneTold(v, 0), 0, 4, -5);
    }

    static void p04_nobody_is_there() {
        for (int p : new int[] {-1, 0, 1}) Edges.keeps("oneTold(" + p + ")", Edges::empty, x -> x.oneTold(p, 0), -5);
    }

    static void p04_what_0_to_2() {
        Edges.ends(Edges::rich, (x, v) -> x.oneTold(1, v), 0, 2, -7);
    }

    static void p04_no_such_one_ahead_of_what() {
        Edges.keeps("oneTold(3, 3)", Edges::rich, x -> x.oneTold(3, 3), -5);
        Edges.keeps("oneTold(-1, -1)", Edges::rich, x -> x.oneTold(-1, -1), -5);
    }

    static void p04_asking_changes_nothing() {
        Edges.keeps("FROM", Edges::rich, x -> x.oneTold(2, 0), 2);
        Edges.keeps("LONG", Edges::rich, x -> x.oneTold(2, 1), 4);
        Edges.keeps("FAT", Edges::rich, x -> x.oneTold(1, 2), 5);
    }

    // ---- 5: house

    static void p05_what_0_to_2() {
        Edges.ends(Edges::rich, (x, v) -> x.house(v, 0), 0, 2, NONE);
    }

    static void p05_style_0_to_2() {
        Edges.ends(Edges::rich, (x, v) -> x.house(0, v), 0, 2, BAD);
    }

    static void p05_warm_at_first_0_to_63() {
        Edges.ends(Edges::rich, (x, v) -> x.house(1, v), 0, 63, BAD);
    }

    static void p05_for_0_to_30_minutes() {
        Edges.ends(Edges::rich, (x, v) -> x.house(2, v), 0, 30, BAD);
    }

    static void p05_what_ahead_of_v() {
        Edges.keeps("house(3, -1)", Edges::rich, x -> x.house(3, -1), NONE);
        Edges.keeps("house(-1, 64)", Edges::rich, x -> x.house(-1, 64), NONE);
    }

    static void p05_answers_what_was() {
        int[] first = {0, 1, 9};
        int[] most = {2, 63, 30};
        WarmChairs x = new WarmChairs();
        for (int w = 0; w < 3; w++) {
            Check.due("the most", x.house(w, most[w]), first[w]);
            Check.due("the least", x.house(w, 0), most[w]);
            Check.due("as it is", x.house(w, 0), 0);
            Check.due("the most again", x.house(w, most[w]), 0);
        }
        for (int w = 0; w < 3; w++) Check.due("each by itself", x.count(w), most[w]);
    }

    static void p05_chairs_that_are_not_there_may_be_warm() {
        WarmChairs x = new WarmChairs();
        Check.due("of no chair", x.house(1, 32), 1);
        Check.due("no chair is warm", x.all(0, 3), 0);
        Edges.chairs(x, 5);
        Check.due("five are not", x.all(0, 3), 0);
        Edges.chairs(x, 1);
        Check.due("the sixth is", x.all(0, 3), 32);
        Check.due("kept as told", x.count(1), 32);
    }

    // ---- 6: count

    static void p06_what_0_to_7() {
        Edges.ends(Edges::rich, (x, v) -> x.count(v), 0, 7, BAD);
        Edges.ends(Edges::empty, (x, v) -> x.count(v), 0, 7, BAD);
    }

    static void p06_of_the_empty() {
        int[] due = {0, 1, 9, 0, 0, 1, 0, 0};
        WarmChairs x = new WarmChairs();
        for (int w = 0; w < 8; w++) Check.due("count(" + w + ")", x.count(w), due[w]);
    }

    static void p06_of_the_full() {
        int[] due = {2, 63, 30, 5, 6, 6, 5, 160};
        WarmChairs x = Edges.made(Edges::full);
        for (int w = 0; w < 8; w++) Check.due("count(" + w + ")", x.count(w), due[w]);
    }

    static void p06_asking_changes_nothing() {
        int[] due = {1, 3, 8, 3, 3, 3, 2, 4};
        for (int w = 0; w < 8; w++) {
            int what = w;
            Edges.keeps("count(" + w + ")", Edges::rich, x -> x.count(what), due[w]);
        }
    }
}
