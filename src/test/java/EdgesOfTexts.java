/** The edges of promises 7 to 10: feed, text (its faults are in EdgesOfFaults), force, asks. */
final class EdgesOfTexts {
    private static final int BAD = WarmChairs.BAD, FULL = WarmChairs.FULL;
    private static final String REST = ";first 0;costs 0;";

    /** A tape of so many bytes. */
    private static Edges.Calls tapeOf(int bytes) {
        return x -> {
            for (int k = 0; k < bytes; k++) x.feed(1, 32, 0, 0, 0, 0);
        };
    }

    private static String blanks(int n) {
        return " ".repeat(n);
    }

    // ---- 7: feed

    static void p07_n_1_to_5() {
        Edges.ends(Edges::rich, (x, v) -> x.feed(v, 1, 2, 3, 4, 5), 1, 5, BAD);
        Edges.ends(Edges::empty, (x, v) -> x.feed(v, 1, 2, 3, 4, 5), 1, 5, BAD);
    }

    static void p07_each_byte_0_to_255() {
        Edges.ends(Edges::rich, (x, v) -> x.feed(5, v, 2, 3, 4, 5), 0, 255, BAD);
        Edges.ends(Edges::rich, (x, v) -> x.feed(5, 1, v, 3, 4, 5), 0, 255, BAD);
        Edges.ends(Edges::rich, (x, v) -> x.feed(5, 1, 2, v, 4, 5), 0, 255, BAD);
        Edges.ends(Edges::rich, (x, v) -> x.feed(5, 1, 2, 3, v, 5), 0, 255, BAD);
        Edges.ends(Edges::rich, (x, v) -> x.feed(5, 1, 2, 3, 4, v), 0, 255, BAD);
    }

    static void p07_bytes_behind_the_n_are_looked_at_too() {
        Edges.ends(Edges::rich, (x, v) -> x.feed(1, 1, v, 3, 4, 5), 0, 255, BAD);
        Edges.ends(Edges::rich, (x, v) -> x.feed(2, 1, 2, v, 4, 5), 0, 255, BAD);
        Edges.ends(Edges::rich, (x, v) -> x.feed(3, 1, 2, 3, v, 5), 0, 255, BAD);
        Edges.ends(Edges::rich, (x, v) -> x.feed(4, 1, 2, 3, 4, v), 0, 255, BAD);
    }

    static void p07_only_the_first_n_come() {
        for (int n = 1; n <= 5; n++) {
            WarmChairs x = new WarmChairs();
            Check.due("feed " + n, x.feed(n, 32, 32, 32, 32, 32), n);
            Check.due("its size", x.count(7), n);
            // The $ behind the n blanks of the first call stands at place n.
            x.feed(1, '$', 'w', 'a', 'r', 'm');
            Check.due("its size", x.count(7), n + 1);
            Check.due("the fault", x.text(), -100 - n);
        }
    }

    static void p07_one_by_one_in_their_order() {
        WarmChairs x = new WarmChairs();
        x.feed(5, 'w', 'a', 'r', 'm', ' ');
        x.feed(4, '1', '2', '-', '7', '$');
        x.feed(3, ';', 'f', 'i', '$', '$');
        x.feed(2, 'r', 's', '$', '$', '$');
        x.feed(1, 't', '$', '$', '$', '$');
        Check.feed(x, " 1;costs 1;");
        Check.due("a text", x.text(), 1);
        x.force(1);
        Check.due("12 less 7", x.asks(0, 0, 0, 0, 0), 5);
    }

    static void p07_till_160_is_taken() {
        for (int n = 1; n <= 5; n++) {
            WarmChairs x = Edges.made(tapeOf(160 - n));
            Check.due("n " + n, x.feed(n, 1, 2, 3, 4, 5), 160);
            Check.due("160", x.count(7), 160);
        }
    }

    static void p07_beyond_160_is_full_and_none_comes() {
        for (int n = 1; n <= 5; n++) {
            int many = n;
            Edges.keeps("n " + n, tapeOf(161 - n), x -> x.feed(many, 1, 2, 3, 4, 5), FULL);
            Edges.keeps("n " + n + " at 160", tapeOf(160), x -> x.feed(many, 1, 2, 3, 4, 5), FULL);
        }
    }

    static void p07_fewer_come_where_more_are_full() {
        WarmChairs x = Edges.made(tapeOf(157));
        Check.due("four", x.feed(4, 1, 2, 3, 4, 5), FULL);
        Check.due("three", x.feed(3, 1, 2, 3, 4, 5), 160);
        Check.due("one", x.feed(1, 1, 2, 3, 4, 5), FULL);
    }

    static void p07_bad_ahead_of_full() {
        Edges.keeps("n 0", tapeOf(160), x -> x.feed(0, 1, 2, 3, 4, 5), BAD);
        Edges.keeps("n 6", tapeOf(160), x -> x.feed(6, 1, 2, 3, 4, 5), BAD);
        Edges.keeps("a byte", tapeOf(160), x -> x.feed(1, 256, 2, 3, 4, 5), BAD);
        Edges.keeps("a byte behind the n", tapeOf(160), x -> x.feed(1, 1, 2, 3, 4, -1), BAD);
    }

    static void p07_room_again_behind_text() {
        WarmChairs x = Edges.made(tapeOf(160));
        Check.due("full", x.feed(1, 32, 0, 0, 0, 0), FULL);
        Check.due("too early an end", x.text(), -260);
        Check.due("room", x.feed(5, 32, 0, 0, 0, 0), 5);
    }

    // ---- 8: text

    static void p08_an_empty_tape_ends_too_early_at_0() {
        Edges.keeps("text()", Edges::empty, x -> x.text(), -100);
    }

    static void p08_a_tape_of_160_bytes_is_a_text() {
        WarmChairs x = new WarmChairs();
        String text = "warm " + "1+".repeat(68) + "10" + REST;
        Check.due("its size", text.length(), 160);
        Check.due("160 bytes", Check.text(x, text), 1);
        x.force(1);
        Check.due("it says", x.asks(0, 0, 0, 0, 0), 78);
        Check.due("padded with blanks", Check.text(x, "warm 1" + REST + blanks(137)), 2);
        Check.due("padded ahead", Check.text(x, blanks(137) + "warm 1" + REST), 3);
    }

    static void p08_a_fault_at_the_last_byte_of_160() {
        WarmChairs x = new WarmChairs();
        Check.due("$ at 159", Check.text(x, "warm 1" + REST + blanks(136) + "$"), -259);
    }

    static void p08_an_early_end_of_160_bytes() {
        WarmChairs x = new WarmChairs();
        Check.due("all but the last ;", Check.text(x, blanks(138) + "warm 1;first 0;costs 0"), -260);
        Check.due("blanks alone", Check.text(x, blanks(160)), -260);
    }

    static void p08_numbers_from_1_to_5_then_full() {
        WarmChairs x = new WarmChairs();
        for (int t = 1; t < 6; t++) Check.due("text " + t, Check.text(x, "warm " + 11 * t + REST), t);
        Check.due("six", x.count(5), 6);
        Check.due("a seventh", Check.text(x, "warm 1" + REST), FULL);
        Check.due("six", x.count(5), 6);
        for (int t = 1; t < 6; t++) {
            x.force(t);
            Check.due("each says its own", x.asks(0, 0, 0, 0, 0), 11 * t);
        }
    }

    private static void sixTexts(WarmChairs x) {
        for (int t = 1; t < 6; t++) Check.text(x, "warm " + t + REST);
    }

    static void p08_full_and_the_tape_stays() {
        Edges.keeps("of a text", x -> {
            sixTexts(x);
            Check.feed(x, "warm 1" + REST);
        }, x -> x.text(), FULL);
    }

    static void p08_full_ahead_of_the_fault() {
        Edges.keeps("of a fault", x -> {
            sixTexts(x);
            Check.feed(x, "warm $" + REST);
        }, x -> x.text(), FULL);
        Edges.keeps("of an empty tape", EdgesOfTexts::sixTexts, x -> x.text(), FULL);
        Edges.keeps("of a full tape", Edges::full, x -> x.text(), FULL);
    }

    static void p08_the_tape_is_empty_behind_a_text() {
        WarmChairs x = new WarmChairs();
        Check.due("a text", Check.text(x, "warm 1" + REST), 1);
        Check.due("empty", x.count(7), 0);
        Check.due("nothing is left", x.text(), -100);
    }

    static void p08_the_tape_is_empty_behind_a_fault() {
        WarmChairs x = new WarmChairs();
        Check.due("a fault", Check.text(x, "warm 1;"), -107);
        Check.due("empty", x.count(7), 0);
        Check.due("nothing is left", Check.text(x, "first 0;costs 0;"), -100);
    }

    static void p08_a_fault_makes_no_text() {
        WarmChairs x = Edges.made(Edges::rich);
        Check.due("a fault", x.text(), -104);
        Check.due("texts", x.count(5), 3);
        Check.due("the law", x.count(6), 2);
        Check.due("none of that number", x.force(3), BAD);
        Check.due("it says", x.asks(0, 0, 0, 0, 0), 4);
    }

    static void p08_a_text_is_not_yet_the_law() {
        WarmChairs x = new WarmChairs();
        Check.text(x, "warm 77" + REST);
        Check.due("the law", x.count(6), 0);
        Check.due("it says", x.asks(0, 0, 0, 0, 0), 3);
    }

    // ---- 9: force

    static void p09_text_0_alone() {
        Edges.ends(Edges::empty, (x, v) -> x.force(v), 0, 0, BAD);
    }

    static void p09_the_first_and_the_last_of_three() {
        Edges.ends(Edges::rich, (x, v) -> x.force(v), 0, 2, BAD);
    }

    static void p09_the_first_and_the_last_of_six() {
        Edges.ends(Edges::full, (x, v) -> x.force(v), 0, 5, BAD);
    }

    static void p09_answers_which_was() {
        WarmChairs x = new WarmChairs();
        sixTexts(x);
        Check.due("from 0 to 5", x.force(5), 0);
        Check.due("as it is", x.force(5), 5);
        Check.due("it says", x.asks(0, 0, 0, 0, 0), 5);
        Check.due("from 5 to 0", x.force(0), 5);
        Check.due("it says", x.asks(0, 0, 0, 0, 0), 3);
        Check.due("the law", x.count(6), 0);
    }

    // ---- 10: asks

    static void p10_part_0_to_2() {
        Edges.ends(Edges::rich, (x, v) -> x.asks(v, 0, 0, 0, 0), 0, 2, BAD);
    }

    static void p10_fat_and_more_0_to_99() {
        Edges.ends(Edges::rich, (x, v) -> x.asks(0, v, 0, 0, 0), 0, 99, BAD);
    }

    static void p10_sat_and_stood_0_to_999() {
        Edges.ends(Edges::rich, (x, v) -> x.asks(1, 0, v, 0, 0), 0, 999, BAD);
    }

    static void p10_minute_0_to_30() {
        Edges.ends(Edges::rich, (x, v) -> x.asks(2, 0, 0, v, 0), 0, 30, BAD);
    }

    static void p10_number_0_to_9() {
        Edges.ends(Edges::rich, (x, v) -> x.asks(0, 0, 0, 0, v), 0, 9, BAD);
    }

    /** What a name is by so many numbers, in each of the parts. */
    private static void name(String name, int fatMore, int satStood, int minute, int number, int due) {
        WarmChairs x = new WarmChairs();
        Check.law(x, "warm " + name + ";first " + name + ";costs " + name + ";");
        for (int part = 0; part < 3; part++) {
            Check.due(name + " of part " + part, x.asks(part, fatMore, satStood, minute, number), due);
        }
    }

    static void p10_fat_is_the_tens_and_more_the_ones() {
        int[] asked = {0, 9, 10, 19, 90, 99};
        for (int v : asked) {
            name("fat", v, 0, 0, 0, v / 10);
            name("more", v, 0, 0, 0, v % 10);
        }
    }

    static void p10_stood_is_the_tens_and_sat_the_ones() {
        int[] asked = {0, 9, 10, 99, 100, 990, 999};
        for (int v : asked) {
            name("stood", 0, v, 0, 0, v / 10);
            name("sat", 0, v, 0, 0, v % 10);
        }
    }

    static void p10_minute_and_number_at_their_ends() {
        name("minute", 0, 0, 0, 9, 0);
        name("minute", 0, 0, 30, 0, 30);
        name("number", 0, 0, 30, 0, 0);
        name("number", 0, 0, 0, 9, 9);
    }

    /** What an expression says, as each of the parts. */
    private static void says(String e, int due) {
        WarmChairs x = new WarmChairs();
        Check.law(x, "warm " + e + ";first " + e + ";costs " + e + ";");
        for (int part = 0; part < 3; part++) Check.due(e + " of part " + part, x.asks(part, 0, 0, 0, 0), due);
    }

    static void p10_below_0_it_is_0() {
        says("0", 0);
        says("-1", 0);
        says("1", 1);
        says("-9999*9999", 0);
    }

    static void p10_above_99_it_is_99() {
        says("98", 98);
        says("99", 99);
        says("100", 99);
        says("9999*9999", 99);
    }

    static void p10_the_bound_is_of_the_whole_alone() {
        says("500-450", 50);
        says("10-500+495", 5);
        says("(100+100)*2=400", 1);
        says("0-1<0", 1);
    }

    static void p10_text_0_at_its_ends() {
        WarmChairs x = new WarmChairs();
        Check.due("warm, the least", x.asks(0, 0, 0, 0, 0), 3);
        Check.due("warm, the most", x.asks(0, 99, 999, 30, 9), 21);
        Check.due("first, the least", x.asks(1, 99, 999, 0, 9), 0);
        Check.due("first, the most", x.asks(1, 0, 0, 30, 0), 30);
        Check.due("costs, the least", x.asks(2, 99, 9, 30, 9), 0);
        Check.due("costs, the most", x.asks(2, 0, 990, 0, 0), 99);
    }

    static void p10_sums_wrap_around() {
        // 2048 * 1024 * 1024 is 2 to the 31st, which by 32 bits is the least number.
        says("2048*1024*1024<0", 1);
        says("2048*1024*1024-1<0", 0);
        says("2048*1024*1024-1+1<0", 1);
        says("2048*1024*1024-1+1=2048*1024*1024", 1);
        says("2048*1024*1024-1", 99);
        says("2048*1024*1024", 0);
    }

    static void p10_products_wrap_around() {
        says("4096*1024*1024", 0);
        says("4096*1024*1024+7", 7);
        says("2048*1024*1024*3=2048*1024*1024", 1);
        says("2048*1024*1024*2", 0);
    }

    static void p10_the_least_number_is_its_own_opposite() {
        says("-(2048*1024*1024)=2048*1024*1024", 1);
        says("-(2048*1024*1024)<0", 1);
    }

    static void p10_less_and_equal_on_both_sides() {
        says("4<5", 1);
        says("5<5", 0);
        says("6<5", 0);
        says("4=5", 0);
        says("5=5", 1);
        says("6=5", 0);
        // Told by the numbers, not by their difference, which would wrap.
        says("2048*1024*1024<1", 1);
        says("2048*1024*1024-1<-1", 0);
    }

    static void p10_what_is_not_0_is_true() {
        says("not 0", 1);
        says("not 1", 0);
        says("not -1", 0);
        says("0 or 0", 0);
        says("0 or -1", 1);
        says("2 or 0", 1);
        says("2 and -1", 1);
        says("2 and 0", 0);
        says("0 and 2", 0);
        says("2 and 1", 1);
        says("not 2", 0);
    }

    static void p10_asking_changes_nothing() {
        Edges.keeps("warm", Edges::rich, x -> x.asks(0, 34, 675, 28, 9), 4);
        Edges.keeps("first", Edges::rich, x -> x.asks(1, 34, 675, 28, 9), 6);
        Edges.keeps("costs", Edges::rich, x -> x.asks(2, 34, 675, 28, 9), 5);
    }
}
