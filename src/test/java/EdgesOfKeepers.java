/** The edges of promises 25 and 26: ever, fewest. */
final class EdgesOfKeepers {
    private static final int BAD = WarmChairs.BAD;

    // ---- 25: ever

    static void p25_many_1_to_20() {
        Edges.ends(Edges::rich, (x, v) -> x.ever(v, 1, 1), 1, 20, BAD);
    }

    static void p25_keepers_0_to_20() {
        Edges.ends(Edges::rich, (x, v) -> x.ever(1, v, 1), 0, 20, BAD);
    }

    static void p25_warm_0_to_20() {
        Edges.ends(Edges::rich, (x, v) -> x.ever(1, 1, v), 0, 20, BAD);
    }

    static void p25_bad_on_a_new_object() {
        Edges.ends(Edges::empty, (x, v) -> x.ever(v, 0, 0), 1, 20, BAD);
        Edges.ends(Edges::empty, (x, v) -> x.ever(20, v, 20), 0, 20, BAD);
        Edges.ends(Edges::empty, (x, v) -> x.ever(20, 20, v), 0, 20, BAD);
    }

    static void p25_warm_for_0_minutes_is_cold_in_0() {
        WarmChairs x = new WarmChairs();
        for (int many : new int[] {1, 2, 20}) {
            for (int keepers : new int[] {0, 1, 20}) Check.due(many + ", " + keepers, x.ever(many, keepers, 0), 0);
        }
    }

    static void p25_without_keepers_it_is_cold_in_minute_w() {
        WarmChairs x = new WarmChairs();
        for (int w = 0; w <= 20; w++) {
            Check.due("one chair, " + w, x.ever(1, 0, w), w);
            Check.due("twenty chairs, " + w, x.ever(20, 0, w), w);
        }
    }

    static void p25_as_many_as_keepers_keep_in_w_minutes_and_one_more() {
        WarmChairs x = new WarmChairs();
        for (int keepers = 1; keepers <= 20; keepers++) {
            for (int w = 1; keepers * w <= 20; w++) {
                Check.due(keepers + " keep " + keepers * w, x.ever(keepers * w, keepers, w), -1);
                if (keepers * w < 20) Check.due("not one more", x.ever(keepers * w + 1, keepers, w), w);
            }
        }
    }

    static void p25_more_keepers_than_chairs() {
        WarmChairs x = new WarmChairs();
        Check.due("twenty of one, 1", x.ever(1, 20, 1), -1);
        Check.due("twenty of one, 20", x.ever(1, 20, 20), -1);
        Check.due("three of two, 1", x.ever(2, 3, 1), -1);
    }

    static void p25_the_most_of_all() {
        WarmChairs x = new WarmChairs();
        Check.due("all twenty", x.ever(20, 20, 20), -1);
        Check.due("one of twenty, 20", x.ever(20, 1, 20), -1);
        Check.due("one of twenty, 19", x.ever(20, 1, 19), 19);
        Check.due("nineteen of twenty, 1", x.ever(20, 19, 1), 1);
        Check.due("twenty of twenty, 1", x.ever(20, 20, 1), -1);
    }

    static void p25_the_house_does_not_matter_nor_is_it_changed() {
        Edges.keeps("cold in 2", Edges::rich, x -> x.ever(5, 2, 2), 2);
        Edges.keeps("never cold", Edges::full, x -> x.ever(5, 2, 3), -1);
    }

    // ---- 26: fewest

    static void p26_many_1_to_20() {
        Edges.ends(Edges::rich, (x, v) -> x.fewest(v, 1), 1, 20, BAD);
        Edges.ends(Edges::empty, (x, v) -> x.fewest(v, 20), 1, 20, BAD);
    }

    static void p26_warm_0_to_20() {
        Edges.ends(Edges::rich, (x, v) -> x.fewest(1, v), 0, 20, BAD);
        Edges.ends(Edges::empty, (x, v) -> x.fewest(20, v), 0, 20, BAD);
    }

    static void p26_warm_for_0_minutes_none_is_enough() {
        WarmChairs x = new WarmChairs();
        for (int many = 1; many <= 20; many++) Check.due("many " + many, x.fewest(many, 0), -1);
    }

    static void p26_warm_for_1_minute_as_many_as_chairs() {
        WarmChairs x = new WarmChairs();
        for (int many = 1; many <= 20; many++) Check.due("many " + many, x.fewest(many, 1), many);
    }

    static void p26_warm_for_20_minutes_one_is_enough() {
        WarmChairs x = new WarmChairs();
        for (int many = 1; many <= 20; many++) Check.due("many " + many, x.fewest(many, 20), 1);
    }

    static void p26_on_both_sides_of_a_whole_share() {
        WarmChairs x = new WarmChairs();
        for (int w = 1; w <= 19; w++) {
            Check.due("as many as w " + w, x.fewest(w, w), 1);
            Check.due("one more than w " + w, x.fewest(w + 1, w), 2);
        }
        Check.due("14 by 7", x.fewest(14, 7), 2);
        Check.due("15 by 7", x.fewest(15, 7), 3);
    }

    static void p26_the_house_does_not_matter_nor_is_it_changed() {
        Edges.keeps("three", Edges::rich, x -> x.fewest(5, 2), 3);
        Edges.keeps("none", Edges::full, x -> x.fewest(5, 0), -1);
    }
}
