/** The edges of promises 35 to 39: sheet, cell, copy, onesBy, taken. */
final class EdgesOfSheets {
    private static final int BAD = WarmChairs.BAD;
    private static final int MIN = Edges.MIN, MAX = Edges.MAX;

    private static int told(WarmChairs x, int p) {
        return x.oneTold(p, 0) * 100 + x.oneTold(p, 1) * 10 + x.oneTold(p, 2);
    }

    // ---- 35: sheet

    static void p35_sheet_0_to_3() {
        Edges.ends(Edges::rich, (x, v) -> x.sheet(v, 0, 1), 0, 3, BAD);
        Edges.ends(Edges::rich, (x, v) -> x.sheet(v, -1, 0), 0, 3, BAD);
    }

    static void p35_sort_minus_1_to_2() {
        Edges.ends(Edges::rich, (x, v) -> x.sheet(0, v, 1), -1, 2, BAD);
    }

    static void p35_n_0_to_40() {
        for (int sort = 0; sort < 3; sort++) {
            for (int n : new int[] {0, 1, 39, 40}) {
                WarmChairs x = Edges.made(Edges::rich);
                Check.due("n " + n, x.sheet(0, sort, n), 1);
                Check.due("its sort", Edges.sort(x, 0), sort);
                Check.due("its size", Edges.size(x, 0), n);
            }
            int of = sort;
            for (int n : new int[] {41, MAX}) Edges.keeps("n " + n, Edges::rich, x -> x.sheet(0, of, n), BAD);
            for (int n : new int[] {-1, MIN}) Edges.keeps("n " + n, Edges::rich, x -> x.sheet(0, of, n), -14);
        }
    }

    static void p35_missing_whatever_n_is() {
        for (int n : new int[] {MIN, -1, 0, 40, 41, MAX}) {
            WarmChairs x = Edges.made(Edges::rich);
            Check.due("n " + n, x.sheet(0, -1, n), 1);
            Check.due("missing", x.cell(0, 0, 0), -11);
            Check.due("missing again", x.sheet(0, -1, n), 1);
            Check.due("others are there", x.cell(1, 0, 0), 1);
        }
    }

    static void p35_sheet_and_sort_ahead_of_n() {
        Edges.keeps("sheet, n -1", Edges::rich, x -> x.sheet(4, 0, -1), BAD);
        Edges.keeps("sheet, n -1", Edges::rich, x -> x.sheet(-1, 0, -1), BAD);
        Edges.keeps("sort, n -1", Edges::rich, x -> x.sheet(0, 3, -1), BAD);
        Edges.keeps("sort, n -1", Edges::rich, x -> x.sheet(0, -2, -1), BAD);
        Edges.keeps("sheet of a missing one", Edges::rich, x -> x.sheet(4, -1, -1), BAD);
    }

    static void p35_all_are_0_anew() {
        for (int sort = 0; sort < 3; sort++) {
            WarmChairs x = new WarmChairs();
            Edges.people(x, 3);
            Edges.row(x, 0, sort, 1, 2, 3);
            Check.due("otherwise", x.judge(0, 0), 0);
            x.sheet(0, sort, 3);
            Check.due("all 0", x.judge(0, 0), -1);
            Edges.row(x, 0, sort, 1, 2, 3);
            x.sheet(0, -1, 0);
            x.sheet(0, (sort + 1) % 3, 3);
            Check.due("all 0 behind a missing one", x.judge(0, 0), -1);
        }
    }

    static void p35_what_lay_behind_a_smaller_one_is_0_too() {
        WarmChairs x = new WarmChairs();
        Edges.people(x, 3);
        Edges.row(x, 0, 2, 1, 1, 1);
        x.sheet(0, 2, 1);
        x.sheet(0, 2, 3);
        Check.due("all 0", x.judge(0, 0), -1);
    }

    // ---- 36: cell

    static void p36_sheet_0_to_3() {
        Edges.ends(Edges::full, (x, v) -> x.cell(v, 0, 1), 0, 3, BAD);
    }

    static void p36_missing() {
        Edges.keeps("cell", Edges::rich, x -> x.cell(3, 0, 1), -11);
    }

    static void p36_place_0_to_the_last() {
        Edges.ends(Edges::rich, (x, v) -> x.cell(0, v, 1), 0, 2, -12);
        Edges.ends(Edges::rich, (x, v) -> x.cell(1, v, 1), 0, 3, -12);
        Edges.ends(Edges::full, (x, v) -> x.cell(2, v, 1), 0, 39, -12);
    }

    static void p36_an_empty_sheet_has_no_place() {
        for (int sort = 0; sort < 3; sort++) {
            int of = sort;
            for (int i : new int[] {-1, 0, 1}) {
                Edges.keeps("place " + i, x -> x.sheet(0, of, 0), x -> x.cell(0, i, 1), -12);
            }
        }
    }

    static void p36_the_order_of_refusals() {
        Edges.keeps("no such sheet ahead of a place", Edges::rich, x -> x.cell(4, -1, 1), BAD);
        Edges.keeps("missing ahead of a place", Edges::rich, x -> x.cell(3, -1, 1), -11);
        Edges.keeps("missing ahead of a place", Edges::rich, x -> x.cell(3, 40, 1), -11);
    }

    /** Whether a cell of a sort that became v is told to be due. */
    private static boolean is(int sort, int v, int due) {
        WarmChairs x = new WarmChairs();
        x.sheet(0, sort, 3);
        Check.due("cell", x.cell(0, 0, v), 1);
        x.cell(0, 1, 1);
        return x.onesBy(0, sort, 0, 1) == 1 && x.oneTold(0, 0) == due;
    }

    static void p36_bytes_keep_the_lowest_8_bits() {
        for (int v : new int[] {0, 1, 29}) {
            Check.holds("as it is", is(0, v, v));
            Check.holds("256 more", is(0, v + 256, v));
            Check.holds("256 less", is(0, v - 256, v));
            Check.holds("65536 more", is(0, v + 65536, v));
            Check.holds("by the highest bit", is(0, MIN + v, v));
        }
        for (int v : new int[] {30, 127, 128, 255, -1, MAX}) {
            for (int due = 0; due < 30; due++) Check.holds(v + " is not " + due, !is(0, v, due));
        }
    }

    static void p36_shorts_keep_the_lowest_16_bits() {
        for (int v : new int[] {0, 1, 29}) {
            Check.holds("as it is", is(1, v, v));
            Check.holds("256 more", !is(1, v + 256, v));
            Check.holds("256 less", !is(1, v - 256, v));
            Check.holds("65536 more", is(1, v + 65536, v));
            Check.holds("65536 less", is(1, v - 65536, v));
            Check.holds("by the highest bit", is(1, MIN + v, v));
        }
        for (int v : new int[] {30, 32767, 32768, 65535, -1, MAX}) {
            for (int due = 0; due < 30; due++) Check.holds(v + " is not " + due, !is(1, v, due));
        }
    }

    static void p36_ints_keep_all() {
        for (int v : new int[] {0, 1, 29}) {
            Check.holds("as it is", is(2, v, v));
            Check.holds("256 more", !is(2, v + 256, v));
            Check.holds("65536 more", !is(2, v + 65536, v));
            Check.holds("by the highest bit", !is(2, MIN + v, v));
        }
    }

    static void p36_only_that_number_is_changed() {
        for (int i = 0; i < 3; i++) {
            WarmChairs x = new WarmChairs();
            Edges.row(x, 0, 2, 1, 2, 3);
            x.cell(0, i, 9);
            x.onesBy(0, 2, 0, 1);
            Check.due("place " + i, told(x, 0), i == 0 ? 923 : i == 1 ? 193 : 129);
        }
    }

    // ---- 37: copy

    static void p37_sheets_0_to_3() {
        Edges.Calls four = x -> {
            for (int s = 0; s < 4; s++) x.sheet(s, 0, 1);
        };
        Edges.ends(four, (x, v) -> x.copy(v, 0, 0, 0, 1), 0, 3, BAD);
        Edges.ends(four, (x, v) -> x.copy(0, 0, v, 0, 1), 0, 3, BAD);
        Edges.keeps("from 4 and to 4", four, x -> x.copy(4, 0, 4, 0, 1), BAD);
    }

    static void p37_missing() {
        Edges.keeps("from a missing one", Edges::rich, x -> x.copy(3, 0, 0, 0, 1), -11);
        Edges.keeps("to a missing one", Edges::rich, x -> x.copy(0, 0, 3, 0, 1), -11);
        Edges.keeps("from and to a missing one", Edges::rich, x -> x.copy(3, 0, 3, 0, 0), -11);
    }

    static void p37_unlike_sorts() {
        for (int s = 0; s < 3; s++) {
            for (int other = 0; other < 3; other++) {
                int from = s, to = other;
                if (s != other) Edges.keeps(s + " to " + other, Edges::rich, x -> x.copy(from, 0, to, 0, 1), -13);
            }
        }
        Edges.keeps("none of them", Edges::rich, x -> x.copy(0, 0, 1, 0, 0), -13);
    }

    static void p37_the_order_of_refusals() {
        Edges.keeps("no such other, missing", Edges::rich, x -> x.copy(3, 0, 4, 0, 1), BAD);
        Edges.keeps("no such one, missing", Edges::rich, x -> x.copy(4, 0, 3, 0, 1), BAD);
        Edges.keeps("missing, outside", Edges::rich, x -> x.copy(3, -1, 0, 0, -1), -11);
        Edges.keeps("missing, outside", Edges::rich, x -> x.copy(0, -1, 3, 0, 1), -11);
        Edges.keeps("unlike, outside", Edges::rich, x -> x.copy(0, -1, 1, 0, 1), -13);
        Edges.keeps("unlike, n below 0", Edges::rich, x -> x.copy(0, 0, 1, 0, -1), -13);
        Edges.keeps("no such one, outside", Edges::rich, x -> x.copy(4, -1, 0, 0, -1), BAD);
    }

    /** Two sheets of ints, of five and of three. */
    private static void fiveAndThree(WarmChairs x) {
        Edges.row(x, 0, 2, 11, 12, 13, 14, 15);
        Edges.row(x, 1, 2, 1, 2, 3);
    }

    static void p37_places_on_both_sides() {
        for (int i = -1; i <= 6; i++) {
            for (int j = -1; j <= 4; j++) {
                for (int n = -1; n <= 6; n++) {
                    boolean inside = i >= 0 && j >= 0 && n >= 0 && i + n <= 5 && j + n <= 3;
                    WarmChairs x = Edges.made(EdgesOfSheets::fiveAndThree);
                    Check.due("copy " + n + " from " + i + " to " + j, x.copy(0, i, 1, j, n), inside ? n : -12);
                }
            }
        }
    }

    static void p37_outside_changes_nothing() {
        int[][] outside = {{-1, 0, 1}, {0, -1, 1}, {0, 0, -1}, {5, 0, 1}, {4, 0, 2}, {0, 3, 1}, {0, 2, 2}, {0, 0, 4}, {6, 0, 0},
            {0, 4, 0}, {-1, 0, 0}, {0, -1, 0}, {MIN, 0, 1}, {MAX, 0, 1}, {0, MIN, 1}, {0, MAX, 1}, {0, 0, MIN}, {0, 0, MAX},
            {MAX, 0, MAX}, {1, 1, MAX}, {MIN, 0, MIN}, {MAX, MAX, 2}};
        for (int[] o : outside) {
            Edges.keeps(o[0] + " " + o[1] + " " + o[2], EdgesOfSheets::fiveAndThree, x -> x.copy(0, o[0], 1, o[1], o[2]), -12);
        }
    }

    static void p37_none_of_them_changes_nothing() {
        Edges.keeps("at the first", EdgesOfSheets::fiveAndThree, x -> x.copy(0, 0, 1, 0, 0), 0);
        Edges.keeps("at the end", EdgesOfSheets::fiveAndThree, x -> x.copy(0, 5, 1, 3, 0), 0);
        Edges.keeps("of the empty", x -> x.sheet(0, 1, 0), x -> x.copy(0, 0, 0, 0, 0), 0);
        Edges.keeps("of the empty, one", x -> x.sheet(0, 1, 0), x -> x.copy(0, 0, 0, 0, 1), -12);
    }

    static void p37_all_of_forty() {
        WarmChairs x = new WarmChairs();
        x.sheet(0, 0, 40);
        x.sheet(1, 0, 40);
        Check.due("forty", x.copy(0, 0, 1, 0, 40), 40);
        Check.due("forty-one", x.copy(0, 0, 1, 0, 41), -12);
        Check.due("the last", x.copy(0, 39, 1, 39, 1), 1);
        Check.due("behind the last", x.copy(0, 40, 1, 39, 1), -12);
    }

    static void p37_within_a_sheet_as_they_were() {
        int[] v = {3, 1, 4, 1, 5, 9};
        for (int i = 0; i < 6; i++) {
            for (int j = 0; j < 6; j++) {
                int n = 6 - Math.max(i, j);
                int[] due = v.clone();
                System.arraycopy(v, i, due, j, n);
                WarmChairs x = new WarmChairs();
                Edges.row(x, 0, 1, v);
                Check.due("from " + i + " to " + j, x.copy(0, i, 0, j, n), n);
                // One who comes from a cell, with 1 and 0 behind it, tells what it is.
                x.sheet(1, 1, 3);
                x.cell(1, 1, 1);
                x.image();
                for (int k = 0; k < 6; k++) {
                    x.copy(0, k, 1, 0, 1);
                    x.onesBy(1, 1, 0, 1);
                    Check.due("cell " + k + " from " + i + " to " + j, x.oneTold(0, 0), due[k]);
                    x.back();
                }
            }
        }
    }

    static void p37_the_one_copied_from_stays() {
        WarmChairs x = Edges.made(EdgesOfSheets::fiveAndThree);
        x.copy(0, 1, 1, 0, 3);
        x.cell(1, 0, 5);
        x.cell(1, 1, 5);
        x.cell(0, 2, 6);
        x.cell(0, 3, 7);
        Check.due("12 6 7 comes", x.onesBy(0, 2, 1, 1), 1);
        Check.due("told", told(x, 0), 1267);
    }

    // ---- 38: onesBy

    static void p38_sheet_0_to_3() {
        Edges.ends(x -> {
            for (int s = 0; s < 4; s++) Edges.row(x, s, 0, 1, 1, 1);
        }, (x, v) -> x.onesBy(v, 0, 0, 1), 0, 3, BAD);
    }

    static void p38_sort_0_to_2() {
        for (int sort : new int[] {MIN, -1, 3, MAX}) {
            Edges.keeps("sort " + sort, Edges::rich, x -> x.onesBy(0, sort, 0, 1), BAD);
        }
        int[] due = {-13, -13, 1};
        for (int sort = 0; sort < 3; sort++) {
            Check.due("sort " + sort, Edges.made(Edges::rich).onesBy(0, sort, 0, 1), due[sort]);
        }
    }

    static void p38_n_0_to_5() {
        Edges.ends(x -> {
            x.sheet(0, 0, 40);
            for (int i = 0; i < 40; i++) x.cell(0, i, 1);
        }, (x, v) -> x.onesBy(0, 0, 0, v), 0, 5, BAD);
    }

    static void p38_missing_and_another_sort() {
        Edges.keeps("missing", Edges::rich, x -> x.onesBy(3, 0, 0, 1), -11);
        Edges.keeps("of another sort", Edges::rich, x -> x.onesBy(0, 1, 0, 1), -13);
        Edges.keeps("of another sort, none of them", Edges::rich, x -> x.onesBy(0, 1, 0, 0), -13);
    }

    static void p38_the_order_of_refusals() {
        Edges.keeps("sort, missing", Edges::rich, x -> x.onesBy(3, 3, 0, 1), BAD);
        Edges.keeps("n, missing", Edges::rich, x -> x.onesBy(3, 0, 0, 6), BAD);
        Edges.keeps("n, missing", Edges::rich, x -> x.onesBy(3, 0, 0, -1), BAD);
        Edges.keeps("n, of another sort", Edges::rich, x -> x.onesBy(0, 0, 0, 6), BAD);
        Edges.keeps("missing, outside", Edges::rich, x -> x.onesBy(3, 0, -1, 1), -11);
        Edges.keeps("of another sort, outside", Edges::rich, x -> x.onesBy(0, 0, -1, 1), -13);
        Edges.keeps("sheet, all else", Edges::rich, x -> x.onesBy(4, 3, -1, 6), BAD);
    }

    static void p38_places_on_both_sides() {
        for (int size = 0; size <= 7; size++) {
            for (int at = -2; at <= 8; at++) {
                WarmChairs x = new WarmChairs();
                x.sheet(0, 2, size);
                for (int i = 0; i < size; i++) x.cell(0, i, 1);
                boolean inside = at >= 0 && at + 3 <= size;
                Check.due("of " + size + " at " + at, x.onesBy(0, 2, at, 1), inside ? 1 : -12);
                Check.due("who came", x.count(3), inside ? 1 : 0);
            }
        }
    }

    static void p38_places_far_outside() {
        for (int at : new int[] {MIN, -3, -1, 40, MAX - 2, MAX - 1, MAX}) {
            for (int n : new int[] {1, 5}) {
                Edges.keeps("at " + at, Edges::rich, x -> x.onesBy(0, 2, at, n), -12);
            }
        }
    }

    static void p38_none_of_them_changes_nothing() {
        Edges.keeps("n 0", Edges::rich, x -> x.onesBy(0, 2, 0, 0), 0);
        Edges.keeps("n 0 of the empty", x -> x.sheet(0, 0, 0), x -> x.onesBy(0, 0, 0, 0), 0);
    }

    static void p38_five_from_forty() {
        WarmChairs x = new WarmChairs();
        x.sheet(0, 1, 40);
        for (int i = 0; i < 15; i++) x.cell(0, 25 + i, i % 3 + 1 + i / 3);
        Check.due("the last fifteen", x.onesBy(0, 1, 25, 5), 5);
        for (int p = 0; p < 5; p++) Check.due("one " + p, told(x, p), 123 + 111 * p);
        x = new WarmChairs();
        x.sheet(0, 1, 40);
        for (int i = 0; i < 40; i++) x.cell(0, i, 1);
        Check.due("one too far", x.onesBy(0, 1, 26, 5), -12);
        Check.due("what stood ahead came", x.count(3), 4);
    }

    static void p38_outside_behind_others_that_came() {
        for (int size = 3; size <= 9; size++) {
            WarmChairs x = new WarmChairs();
            x.sheet(0, 0, size);
            for (int i = 0; i < size; i++) x.cell(0, i, 2);
            Check.due("of " + size, x.onesBy(0, 0, 0, 4), -12);
            Check.due("who came", x.count(3), size / 3);
        }
    }

    static void p38_who_is_not_as_told_is_left_out() {
        int[][] ones = {{0, 1, 0, 1}, {29, 9, 9, 1}, {-1, 1, 0, 0}, {30, 1, 0, 0}, {0, 0, 0, 0}, {0, 10, 0, 0}, {0, 1, -1, 0},
            {0, 1, 10, 0}};
        for (int[] o : ones) {
            for (int sort = 0; sort < 3; sort++) {
                WarmChairs x = new WarmChairs();
                Edges.row(x, 0, sort, o[0], o[1], o[2], 5, 5, 5);
                Check.due(o[0] + " " + o[1] + " " + o[2], x.onesBy(0, sort, 0, 2), 1 + o[3]);
                Check.due("people", x.count(3), 1 + o[3]);
                Check.due("the other came", told(x, o[3]), 555);
            }
        }
    }

    static void p38_all_are_left_out() {
        Edges.keeps("five of LONG 0", x -> x.sheet(0, 0, 15), x -> x.onesBy(0, 0, 0, 5), 0);
    }

    static void p38_where_it_is_full_others_are_left_out() {
        for (int there = 0; there <= 5; there++) {
            WarmChairs x = new WarmChairs();
            Edges.people(x, there);
            x.sheet(0, 2, 15);
            for (int i = 0; i < 15; i++) x.cell(0, i, 3);
            Check.due(there + " there", x.onesBy(0, 2, 0, 5), 5 - there);
            Check.due("five", x.count(3), 5);
        }
    }

    static void p38_full_and_outside() {
        Edges.keeps("outside at once", Edges::full, x -> x.onesBy(0, 0, 38, 1), -12);
        Edges.keeps("outside behind one left out", Edges::full, x -> x.onesBy(0, 0, 37, 2), -12);
        Edges.keeps("all left out", Edges::full, x -> x.onesBy(0, 0, 25, 5), 0);
    }

    // ---- 39: taken

    static void p39_kind_0_to_6() {
        for (int kind : new int[] {MIN, -1, 7, MAX}) {
            Edges.keeps("kind " + kind + " of one", Edges::rich, x -> x.taken(0, kind), BAD);
            Edges.keeps("kind " + kind + " of a chair", Edges::rich, x -> x.taken(5, kind), BAD);
        }
        Check.due("kind 0", Edges.made(Edges::rich).taken(5, 0), 0);
        Check.due("kind 6", Edges.made(Edges::rich).taken(0, 6), 2);
    }

    static void p39_place_0_to_10() {
        Edges.ends(Edges::full, (x, v) -> x.taken(v, 0), 0, 10, -12);
        Edges.ends(Edges::empty, (x, v) -> x.taken(v, 6), 0, 10, -12);
    }

    static void p39_people_lie_at_0_to_4() {
        WarmChairs x = Edges.made(Edges::full);
        for (int i = 0; i <= 10; i++) Check.due("place " + i, x.taken(i, 6), i < 5 ? 9 - i : -13);
    }

    static void p39_chairs_lie_at_5_to_10() {
        WarmChairs x = Edges.made(Edges::full);
        for (int i = 0; i <= 10; i++) Check.due("place " + i, x.taken(i, 0), i < 5 ? -13 : i - 5);
    }

    static void p39_nothing_lies_there() {
        for (int people = 0; people <= 5; people++) {
            WarmChairs x = new WarmChairs();
            Edges.people(x, people);
            for (int i = 0; i < 5; i++) Check.due("one " + i + " of " + people, x.taken(i, 6), i < people ? 1 : -11);
        }
        for (int chairs = 0; chairs <= 6; chairs++) {
            WarmChairs x = new WarmChairs();
            Edges.chairs(x, chairs);
            for (int i = 0; i < 6; i++) Check.due("chair " + i + " of " + chairs, x.taken(5 + i, 0), i < chairs ? i : -11);
        }
    }

    static void p39_the_order_of_refusals() {
        Edges.keeps("kind ahead of a place", Edges::rich, x -> x.taken(-1, 7), BAD);
        Edges.keeps("kind ahead of a place", Edges::rich, x -> x.taken(11, -1), BAD);
        Edges.keeps("kind ahead of nothing there", Edges::rich, x -> x.taken(4, 7), BAD);
        Edges.keeps("kind ahead of another kind", Edges::rich, x -> x.taken(0, 7), BAD);
        Edges.keeps("nothing there ahead of another kind", Edges::rich, x -> x.taken(4, 0), -11);
        Edges.keeps("nothing there ahead of another kind", Edges::rich, x -> x.taken(10, 6), -11);
    }

    static void p39_each_kind_taken_for_each() {
        // Rows: what it is; columns: what it is taken for.
        String[] isOne = {"1.....", "11....", "1.1...", "11.1..", "1.1.1.", "1....1"};
        WarmChairs x = new WarmChairs();
        for (int c = 0; c < 6; c++) x.chair(c, 0);
        for (int c = 0; c < 6; c++) {
            for (int kind = 0; kind < 6; kind++) {
                Check.due(c + " for " + kind, x.taken(5 + c, kind), isOne[c].charAt(kind) == '1' ? c : -13);
            }
            Check.due(c + " for one of people", x.taken(5 + c, 6), -13);
        }
    }

    static void p39_one_of_people_is_no_chair() {
        for (int kind = 0; kind < 6; kind++) {
            int as = kind;
            Edges.keeps("taken for " + kind, Edges::rich, x -> x.taken(2, as), -13);
        }
    }

    static void p39_what_was_mended_is_what_it_is_now() {
        WarmChairs x = new WarmChairs();
        x.chair(3, 0);
        Check.due("a stove is a cushioned", x.taken(5, 1), 0);
        x.mend(0, 4, 0);
        Check.due("a stool is none", x.taken(5, 1), -13);
        Check.due("a stool is a draughty", x.taken(5, 2), 0);
    }

    static void p39_asking_changes_nothing() {
        Edges.keeps("LONG", Edges::rich, x -> x.taken(1, 6), 3);
        Edges.keeps("a bench", Edges::rich, x -> x.taken(7, 5), 2);
    }
}
