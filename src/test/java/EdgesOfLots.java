import java.math.BigInteger;

/** The edges of promises 31 to 34: drawn, odds, image, back. */
final class EdgesOfLots {
    private static final int BAD = WarmChairs.BAD, STATE = WarmChairs.STATE;
    private static final long NO = WarmChairs.NO;

    /** Which chairs a seed tells, by the document's words. */
    private static int set(int seed, int chairs) {
        BigInteger lot = BigInteger.valueOf(seed + 1L);
        int set = 0;
        for (int c = 0; c < chairs; c++) {
            lot = lot.multiply(BigInteger.valueOf(48271)).mod(BigInteger.valueOf(2147483647));
            if (lot.testBit(0)) set |= 1 << c;
        }
        return set;
    }

    /** So many chairs, each of which serves one; five who come in minute 0: as many rise as are warm, five at most. */
    private static WarmChairs house(int chairs) {
        WarmChairs x = new WarmChairs();
        Edges.chairs(x, chairs);
        for (int p = 0; p < 5; p++) x.one(0, 9, 0);
        Check.law(x, "warm 0;first 0;costs 0;");
        return x;
    }

    private static int rise(int seed, int chairs) {
        return Math.min(5, Integer.bitCount(set(seed, chairs)));
    }

    // ---- 31: drawn

    static void p31_seed_0_to_99999() {
        Edges.ends(Edges::rich, (x, v) -> x.drawn(v), 0, 99999, BAD);
        Edges.ends(Edges::empty, (x, v) -> x.drawn(v), 0, 99999, BAD);
    }

    static void p31_no_chair_or_nobody() {
        WarmChairs x = new WarmChairs();
        Check.due("neither", x.drawn(0), 0);
        x.one(0, 1, 0);
        Check.due("no chair", x.drawn(99999), 0);
        x = new WarmChairs();
        Edges.chairs(x, 6);
        Check.due("nobody", x.drawn(0), 0);
    }

    static void p31_the_first_and_the_last_seeds() {
        for (int chairs = 1; chairs <= 6; chairs++) {
            WarmChairs x = house(chairs);
            for (int seed : new int[] {0, 1, 2, 3, 49999, 50000, 99997, 99998, 99999}) {
                Check.due("seed " + seed + " of " + chairs, x.drawn(seed), rise(seed, chairs));
            }
        }
    }

    static void p31_a_lot_for_each_chair_by_numbers() {
        for (int c = 0; c < 6; c++) {
            WarmChairs x = new WarmChairs();
            for (int k = 0; k < 6; k++) x.chair(k == c ? 0 : 3, 0);
            x.one(0, 1, 0);
            for (int seed : new int[] {0, 1, 44487, 44488, 99998, 99999}) {
                Check.due("chair " + c + " by " + seed, x.drawn(seed), set(seed, 6) >> c & 1);
            }
        }
    }

    static void p31_whatever_is_warm_at_first_now() {
        for (int bits : new int[] {0, 63}) {
            WarmChairs x = house(6);
            x.house(1, bits);
            Check.due("by " + bits, x.drawn(0), rise(0, 6));
            Check.due("stays", x.count(1), bits);
        }
    }

    static void p31_asking_changes_nothing() {
        Edges.keeps("drawn(0)", Edges::rich, x -> x.drawn(0), 3);
        Edges.keeps("drawn(7)", Edges::empty, x -> x.drawn(7), 0);
    }

    // ---- 32: odds

    static void p32_seed_0_to_99999() {
        Edges.ends(Edges::rich, (x, v) -> x.odds(v, 1, 0, 0), 0, 99999, NO);
    }

    static void p32_seeds_1_to_20() {
        Edges.ends(Edges::rich, (x, v) -> x.odds(0, v, 0, 0), 1, 20, NO);
    }

    static void p32_n_0_to_5() {
        Edges.ends(Edges::rich, (x, v) -> x.odds(0, 1, v, 0), 0, 5, NO);
    }

    static void p32_part_0_and_1() {
        Edges.ends(Edges::rich, (x, v) -> x.odds(0, 1, 0, v), 0, 1, NO);
    }

    private static void oddsAre(WarmChairs x, int seed, int seeds, int n) {
        int above = 0;
        for (int k = 0; k < seeds; k++) if (rise(seed + k, 6) >= n) above++;
        int both = BigInteger.valueOf(above).gcd(BigInteger.valueOf(seeds)).intValue();
        String call = "odds(" + seed + ", " + seeds + ", " + n + ")";
        Check.due(call + " above", x.odds(seed, seeds, n, 0), above / both);
        Check.due(call + " below", x.odds(seed, seeds, n, 1), seeds / both);
    }

    static void p32_of_1_to_20_seeds_in_lowest_terms() {
        for (int n = 0; n <= 5; n++) {
            WarmChairs x = house(6);
            for (int seeds = 1; seeds <= 20; seeds++) oddsAre(x, 0, seeds, n);
        }
    }

    static void p32_they_may_pass_99999() {
        for (int n = 0; n <= 5; n++) {
            WarmChairs x = house(6);
            for (int seed : new int[] {99980, 99981, 99998, 99999}) {
                oddsAre(x, seed, 1, n);
                oddsAre(x, seed, 2, n);
                oddsAre(x, seed, 20, n);
            }
        }
    }

    static void p32_never_is_0_of_1_and_always_1_of_1() {
        WarmChairs x = new WarmChairs();
        for (int seeds : new int[] {1, 2, 19, 20}) {
            Check.due("never, above", x.odds(5, seeds, 1, 0), 0);
            Check.due("never, below", x.odds(5, seeds, 1, 1), 1);
            Check.due("always, above", x.odds(5, seeds, 0, 0), 1);
            Check.due("always, below", x.odds(5, seeds, 0, 1), 1);
        }
    }

    static void p32_five_rise_or_not() {
        WarmChairs x = house(6);
        for (int seed : new int[] {0, 2, 4}) {
            Check.due("seed " + seed, x.odds(seed, 1, 5, 0), rise(seed, 6) >= 5 ? 1 : 0);
        }
        Check.due("four do by seed 0", rise(0, 6), 4);
        Check.due("five do by seed 2", rise(2, 6), 5);
    }

    static void p32_asking_changes_nothing() {
        Edges.keeps("above", Edges::rich, x -> x.odds(0, 20, 0, 0), 1);
        Edges.keeps("below", Edges::empty, x -> x.odds(99999, 20, 5, 1), 1);
    }

    // ---- 33: image

    static void p33_of_nobody() {
        WarmChairs x = new WarmChairs();
        Check.due("image()", x.image(), 0);
        Check.due("back()", x.back(), 0);
    }

    static void p33_of_five_people_and_six_chairs() {
        WarmChairs x = Edges.made(Edges::full);
        Check.due("image()", x.image(), 5);
        Edges.settings(x, 0, 0, 0);
        for (int p = 0; p < 5; p++) for (int w = 0; w < 3; w++) x.wish(p, w, 9);
        for (int c = 0; c < 6; c++) x.mend(c, 0, 0);
        x.force(1);
        Edges.keeps("back", Edges::full, y -> {
            y.image();
            Edges.settings(y, 0, 0, 0);
            for (int p = 0; p < 5; p++) for (int w = 0; w < 3; w++) y.wish(p, w, 9);
            for (int c = 0; c < 6; c++) y.mend(c, 0, 0);
            y.force(1);
            return y.back();
        }, 5);
    }

    static void p33_the_last_image_is_the_one() {
        WarmChairs x = new WarmChairs();
        x.one(1, 1, 1);
        Check.due("the first", x.image(), 1);
        x.one(2, 2, 2);
        Check.due("the second", x.image(), 2);
        x.one(3, 3, 3);
        Check.due("back", x.back(), 2);
        Check.due("one 1", x.oneTold(1, 0), 2);
    }

    static void p33_nothing_but_the_image_is_changed() {
        Edges.keeps("the same image twice", x -> x.image(), x -> x.image(), 0);
        WarmChairs x = Edges.made(Edges::rich);
        Check.due("image()", x.image(), 3);
        int[] due = {1, 3, 8, 3, 3, 3, 2, 4};
        for (int w = 0; w < 8; w++) Check.due("count(" + w + ")", x.count(w), due[w]);
    }

    static void p33_later_changes_are_none_of_the_image() {
        Edges.keeps("all that it keeps", x -> {
            x.one(1, 2, 3);
            x.chair(4, 5);
            x.image();
        }, x -> {
            x.wish(0, 0, 9);
            x.wish(0, 1, 9);
            x.wish(0, 2, 9);
            x.mend(0, 1, 1);
            Edges.settings(x, 2, 2, 2);
            x.one(0, 1, 0);
            x.chair(0, 0);
            return x.back();
        }, 1);
    }

    // ---- 34: back

    static void p34_there_is_no_image() {
        Edges.keeps("of the empty", Edges::empty, x -> x.back(), STATE);
        Edges.keeps("of a house", x -> {
            x.one(1, 2, 3);
            x.chair(4, 5);
            Edges.settings(x, 2, 2, 2);
            Edges.row(x, 0, 2, 1, 2, 3);
            Check.feed(x, "warm");
        }, x -> x.back(), STATE);
    }

    static void p34_people_and_chairs_that_came_since_are_none() {
        WarmChairs x = new WarmChairs();
        x.image();
        for (int p = 0; p < 5; p++) x.one(0, 1, 0);
        Edges.chairs(x, 6);
        Check.due("back()", x.back(), 0);
        Check.due("no people", x.count(3), 0);
        Check.due("no chairs", x.count(4), 0);
        Check.due("no one 0", x.oneTold(0, 0), -5);
        Check.due("no chair 0", x.chairTold(0, 0), -5);
        Check.due("nothing at 0", x.taken(0, 6), -11);
        Check.due("nothing at 5", x.taken(5, 0), -11);
        Check.due("one 0 anew", x.one(7, 7, 7), 0);
        Check.due("chair 0 anew", x.chair(4, 4), 0);
    }

    static void p34_again_and_again() {
        WarmChairs x = Edges.made(Edges::rich);
        for (int k = 0; k < 3; k++) {
            Check.due("back()", x.back(), 1);
            Check.due("people", x.count(3), 1);
            Check.due("chairs", x.count(4), 1);
            Check.due("FROM", x.oneTold(0, 0), 4);
            Check.due("KIND", x.chairTold(0, 0), 1);
            Check.due("STYLE", x.count(0), 2);
            Check.due("WARM AT FIRST", x.count(1), 5);
            Check.due("for so many minutes", x.count(2), 12);
            Check.due("THE LAW", x.count(6), 0);
            Edges.people(x, 4);
            Edges.chairs(x, 5);
            x.wish(0, 0, 29);
            x.mend(0, 5, 9);
            Edges.settings(x, 0, 0, 0);
            x.force(1);
        }
    }

    static void p34_texts_tape_and_sheets_stay() {
        WarmChairs x = Edges.made(Edges::rich);
        x.back();
        Check.due("texts", x.count(5), 3);
        Check.due("the tape", x.count(7), 4);
        int[] sizes = {3, 4, 3, -1};
        for (int s = 0; s < 4; s++) Check.due("sheet " + s, Edges.size(x, s), sizes[s]);
        Check.due("the tape is what it was", x.text(), -104);
        Check.due("text 2", x.force(2), 0);
        Check.due("it says", x.asks(0, 0, 0, 0, 0), 4);
        Check.due("sheet 1 is what it was: 9 8 7", x.onesBy(1, 0, 0, 1), 1);
        Check.due("FROM", x.oneTold(1, 0), 9);
        Check.due("LONG", x.oneTold(1, 1), 8);
        Check.due("FAT", x.oneTold(1, 2), 7);
    }
}
