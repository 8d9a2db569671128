/** The edges of promises 11 to 13: chair, mend, chairTold. */
final class EdgesOfChairs {
    private static final int BAD = WarmChairs.BAD, FULL = WarmChairs.FULL;

    private static int told(WarmChairs x, int c) {
        return x.chairTold(c, 0) * 10 + x.chairTold(c, 1);
    }

    // ---- 11: chair

    static void p11_kind_0_to_5() {
        Edges.ends(Edges::rich, (x, v) -> x.chair(v, 0), 0, 5, BAD);
        Edges.ends(Edges::empty, (x, v) -> x.chair(v, 9), 0, 5, BAD);
    }

    static void p11_more_0_to_9() {
        Edges.ends(Edges::rich, (x, v) -> x.chair(0, v), 0, 9, BAD);
        Edges.ends(Edges::empty, (x, v) -> x.chair(5, v), 0, 9, BAD);
    }

    static void p11_the_ends_are_kept() {
        WarmChairs x = new WarmChairs();
        Check.due("chair(0, 0)", x.chair(0, 0), 0);
        Check.due("chair(5, 9)", x.chair(5, 9), 1);
        Check.due("told of 0", told(x, 0), 0);
        Check.due("told of 1", told(x, 1), 59);
    }

    static void p11_the_sixth_is_taken() {
        WarmChairs x = new WarmChairs();
        for (int c = 0; c < 6; c++) Check.due("chair " + c, x.chair(c, 9 - c), c);
        Check.due("six", x.count(4), 6);
        for (int c = 0; c < 6; c++) Check.due("told of " + c, told(x, c), c * 10 + 9 - c);
    }

    static void p11_the_seventh_is_full() {
        Edges.keeps("chair(0, 0)", Edges::full, x -> x.chair(0, 0), FULL);
        Edges.keeps("chair(5, 9)", Edges::full, x -> x.chair(5, 9), FULL);
    }

    static void p11_bad_ahead_of_full() {
        Edges.keeps("kind 6", Edges::full, x -> x.chair(6, 0), BAD);
        Edges.keeps("kind -1", Edges::full, x -> x.chair(-1, 0), BAD);
        Edges.keeps("more 10", Edges::full, x -> x.chair(0, 10), BAD);
        Edges.keeps("more -1", Edges::full, x -> x.chair(0, -1), BAD);
    }

    static void p11_room_again_behind_an_image_of_five() {
        WarmChairs x = new WarmChairs();
        Edges.chairs(x, 5);
        x.image();
        Check.due("the sixth", x.chair(1, 1), 5);
        Check.due("the seventh", x.chair(1, 1), FULL);
        x.back();
        Check.due("the sixth anew", x.chair(2, 2), 5);
        Check.due("told", told(x, 5), 22);
    }

    // ---- 12: mend

    static void p12_the_first_and_the_last_of_three() {
        Edges.ends(Edges::rich, (x, v) -> x.mend(v, 2, 2), 0, 2, -5);
    }

    static void p12_the_first_and_the_last_of_six() {
        Edges.ends(Edges::full, (x, v) -> x.mend(v, 2, 2), 0, 5, -5);
    }

    static void p12_no_chair_is_there() {
        for (int c : new int[] {-1, 0, 1}) Edges.keeps("mend(" + c + ")", Edges::empty, x -> x.mend(c, 0, 0), -5);
    }

    static void p12_kind_0_to_5() {
        Edges.ends(Edges::rich, (x, v) -> x.mend(1, v, 4), 0, 5, -7);
    }

    static void p12_more_0_to_9() {
        Edges.ends(Edges::rich, (x, v) -> x.mend(1, 4, v), 0, 9, -7);
    }

    static void p12_no_such_chair_ahead_of_kind_and_more() {
        Edges.keeps("kind", Edges::rich, x -> x.mend(3, 6, 0), -5);
        Edges.keeps("more", Edges::rich, x -> x.mend(-1, 0, 10), -5);
    }

    static void p12_answers_the_kind_that_it_was() {
        WarmChairs x = new WarmChairs();
        x.chair(4, 3);
        x.chair(2, 1);
        Check.due("from 4 to 5", x.mend(0, 5, 9), 4);
        Check.due("from 5 to 0", x.mend(0, 0, 0), 5);
        Check.due("as it is", x.mend(0, 0, 0), 0);
        Check.due("told", told(x, 0), 0);
        Check.due("the other is as was", told(x, 1), 21);
    }

    static void p12_one_that_came_since_the_image_is_none() {
        WarmChairs x = new WarmChairs();
        Edges.chairs(x, 1);
        x.image();
        Edges.chairs(x, 1);
        Check.due("there", x.mend(1, 3, 3), 0);
        x.back();
        Check.due("none", x.mend(1, 3, 3), -5);
    }

    // ---- 13: chairTold

    static void p13_the_first_and_the_last_of_three() {
        Edges.ends(Edges::rich, (x, v) -> x.chairTold(v, 0), 0, 2, -5);
    }

    static void p13_the_first_and_the_last_of_six() {
        Edges.ends(Edges::full, (x, v) -> x.chairTold(v, 1), 0, 5, -5);
    }

    static void p13_no_chair_is_there() {
        for (int c : new int[] {-1, 0, 1}) Edges.keeps("chairTold(" + c + ")", Edges::empty, x -> x.chairTold(c, 0), -5);
    }

    static void p13_what_0_and_1() {
        Edges.ends(Edges::rich, (x, v) -> x.chairTold(2, v), 0, 1, -7);
    }

    static void p13_no_such_chair_ahead_of_what() {
        Edges.keeps("chairTold(3, 2)", Edges::rich, x -> x.chairTold(3, 2), -5);
        Edges.keeps("chairTold(-1, -1)", Edges::rich, x -> x.chairTold(-1, -1), -5);
    }

    static void p13_asking_changes_nothing() {
        Edges.keeps("KIND", Edges::rich, x -> x.chairTold(2, 0), 5);
        Edges.keeps("MORE", Edges::rich, x -> x.chairTold(2, 1), 7);
    }
}
