/** Promises 14 to 17: of, chairOf, all, cold. */
public final class EveningTest {
    public static void main(String[] args) {
        refusals();
        minutes();
        first();
        styles();
        all();
        cold();
        changesNothing();
        Check.end();
    }

    private static void refusals() {
        WarmChairs x = new WarmChairs();
        Check.due("of() of nobody", x.of(0, 0, 0), -5);
        Check.due("chairOf() of none", x.chairOf(0, 0, 0), -5);
        x.one(0, 1, 0);
        x.chair(0, 0);
        for (int n : new int[] {-1, 31, Integer.MIN_VALUE, Integer.MAX_VALUE}) {
            Check.due("of(" + n + ")", x.of(n, 0, 9), -5);
            Check.due("chairOf(" + n + ")", x.chairOf(n, 0, 9), -5);
            Check.due("all(" + n + ")", x.all(n, 9), -5);
        }
        for (int i : new int[] {-1, 1, Integer.MAX_VALUE}) {
            Check.due("of(0, " + i + ")", x.of(0, i, 9), -5);
            Check.due("chairOf(0, " + i + ")", x.chairOf(0, i, 9), -5);
        }
        Check.due("of what -1", x.of(0, 0, -1), -7);
        Check.due("of what 5", x.of(0, 0, 5), -7);
        Check.due("chairOf what -1", x.chairOf(0, 0, -1), -7);
        Check.due("chairOf what 3", x.chairOf(0, 0, 3), -7);
        Check.due("all what -1", x.all(0, -1), -7);
        Check.due("all what 6", x.all(0, 6), -7);
        Check.due("of(30)", x.of(30, 0, 0), -1);
        Check.due("chairOf(30)", x.chairOf(30, 0, 0), -1);
    }

    /** One chair, two people, each minute told by hand: the default law keeps 3 minutes and fat. */
    private static void minutes() {
        WarmChairs x = new WarmChairs();
        x.chair(0, 0);
        x.house(2, 2);
        x.one(1, 2, 0);
        x.one(0, 3, 1);
        // minute:          0   1   2   3   4   5
        // one 0:           -   stands ..  sits     rises in 5
        // one 1:           sits .......   rises in 3
        int[] sits0 = {-1, -1, -1, -1, 0, 0, -1, -1};
        int[] sat0 = {0, 0, 0, 0, 1, 2, 2, 2};
        int[] stood0 = {0, 0, 1, 2, 2, 2, 2, 2};
        int[] risen0 = {-1, -1, -1, -1, -1, -1, 5, 5};
        int[] sits1 = {-1, 0, 0, 0, -1, -1, -1, -1};
        int[] sat1 = {0, 1, 2, 3, 3, 3, 3, 3};
        int[] risen1 = {-1, -1, -1, -1, 3, 3, 3, 3};
        int[] sitter = {-1, 1, 1, 1, 0, 0, -1, -1};
        // TILL is 2 at first, 7 from minute 3 on (3, 3 and fat 1), 8 from 5 on.
        int[] till = {2, 1, 0, 0, 3, 2, 2, 1};
        int[] free = {1, 0, 0, 0, 0, 0, 1, 1};
        for (int n = 0; n < 8; n++) {
            Check.due("one 0 sits on, " + n, x.of(n, 0, 0), sits0[n]);
            Check.due("one 0 sat, " + n, x.of(n, 0, 1), sat0[n]);
            Check.due("one 0 stood, " + n, x.of(n, 0, 2), stood0[n]);
            Check.due("one 0 has risen, " + n, x.of(n, 0, 3), risen0[n]);
            Check.due("one 0 sat down on, " + n, x.of(n, 0, 4), n < 4 ? -1 : 0);
            Check.due("one 1 sits on, " + n, x.of(n, 1, 0), sits1[n]);
            Check.due("one 1 sat, " + n, x.of(n, 1, 1), sat1[n]);
            Check.due("one 1 stood, " + n, x.of(n, 1, 2), 0);
            Check.due("one 1 has risen, " + n, x.of(n, 1, 3), risen1[n]);
            Check.due("one 1 sat down on, " + n, x.of(n, 1, 4), n < 1 ? -1 : 0);
            Check.due("who sits, " + n, x.chairOf(n, 0, 0), sitter[n]);
            Check.due("till, " + n, x.chairOf(n, 0, 1), till[n]);
            Check.due("free, " + n, x.chairOf(n, 0, 2), free[n]);
        }
        Check.due("cold", x.cold(), 8);
    }

    /** Who goes first, by the law; of like ones by numbers. */
    private static void first(String e, int... due) {
        WarmChairs x = new WarmChairs();
        for (int c = 0; c < 4; c++) x.chair(0, c);
        x.house(1, 15);
        x.house(2, 30);
        x.one(0, 1, 3);
        x.one(0, 1, 1);
        x.one(0, 1, 4);
        x.one(0, 1, 1);
        Check.law(x, "warm 0 ; first " + e + " ; costs 0 ;");
        for (int p = 0; p < 4; p++) Check.due("first " + e + ": one " + p, x.of(1, p, 0), due[p]);
    }

    private static void first() {
        first("0", 0, 1, 2, 3);
        first("fat", 2, 0, 3, 1);
        first("9 - fat", 1, 2, 0, 3);
        first("number", 0, 1, 2, 3);
        first("9 - number", 3, 2, 1, 0);
        first("minute", 0, 1, 2, 3);
        first("more", 0, 1, 2, 3);
        first("( number = 1 ) * ( more < 1 ) * ( sat = 0 ) * ( stood = 0 ) * ( minute = 0 )", 0, 3, 1, 2);
        // Below 0 it says 0: then all are alike.
        first("0 - fat", 0, 1, 2, 3);
        first("100 + fat", 0, 1, 2, 3);
        whoStoodGoesFirst();
    }

    private static void whoStoodGoesFirst() {
        WarmChairs x = new WarmChairs();
        x.chair(0, 0);
        x.house(2, 30);
        x.one(0, 4, 0);
        x.one(3, 1, 0);
        x.one(1, 1, 0);
        Check.law(x, "warm 9 ; first 9 - stood ; costs 0 ;");
        Check.due("one 2 stood longer", x.of(5, 2, 0), 0);
        Check.due("one 1 goes behind", x.of(6, 1, 0), 0);
        x.force(0);
        Check.due("by minute they are alike", x.of(5, 1, 0), 0);
    }

    private static void styles() {
        WarmChairs x = new WarmChairs();
        for (int c = 0; c < 4; c++) x.chair(c == 3 ? 3 : 0, c == 3 ? 9 : 0);
        x.house(1, 6);
        x.house(2, 8);
        x.one(0, 1, 0);
        x.one(1, 9, 0);
        x.one(1, 9, 0);
        x.one(1, 9, 0);
        // Chairs 1 and 2 are warm till 8, the stove 3 is warm with till 0.
        int[][] due = {{1, 1, 2, 3}, {1, 2, 1, 3}, {3, 1, 2, 3}};
        for (int style = 0; style < 3; style++) {
            x.house(0, style);
            // By style 1 chair 1 keeps warm till 4 in minute 1, so that 2 goes ahead; by 2 the stove is taken
            // first, and keeps warm till 22 then (1, 3 and more, and more once more), so that it goes last.
            for (int p = 0; p < 4; p++) {
                Check.due("style " + style + ": one " + p, x.of(3, p, 4), due[style][p]);
            }
        }
    }

    private static void all() {
        WarmChairs x = new WarmChairs();
        Check.due("nobody stood longest", x.all(30, 2), -1);
        Check.due("nobody costs", x.all(30, 5), 0);
        x.one(2, 2, 1);
        x.one(0, 4, 2);
        x.one(1, 9, 3);
        x.one(29, 1, 3);
        x.chair(0, 0);
        x.chair(5, 0);
        x.house(1, 1);
        Check.law(x, "warm 9 ; first 9 - stood ; costs 10 * stood + sat + fat - ( minute - 30 ) + more + number ;");
        // One 1 sits on 0 from 0 on, one 2 on the bench from 1 on; one 0 stands from 2 till one 1 rises in 4.
        Check.due("risen behind 4", x.all(4, 0), 0);
        Check.due("risen behind 5", x.all(5, 0), 1);
        Check.due("risen behind 6", x.all(6, 0), 1);
        Check.due("risen behind 7", x.all(7, 0), 2);
        Check.due("risen behind 30", x.all(30, 0), 3);
        Check.due("stood behind 3", x.all(3, 1), 1);
        Check.due("stood behind 30", x.all(30, 1), 3);
        Check.due("who stood longest behind 1", x.all(1, 2), 0);
        Check.due("who stood longest behind 30", x.all(30, 2), 0);
        Check.due("warm in 0", x.all(0, 3), 1);
        Check.due("warm in 1", x.all(1, 3), 3);
        Check.due("sat on behind 0", x.all(0, 4), 0);
        Check.due("sat on behind 1", x.all(1, 4), 1);
        Check.due("sat on behind 2", x.all(2, 4), 3);
        // Of the four: 0 stood 1, sat 0, fat 1, number 0; 1 sat 3, fat 2; 2 sat 2, fat 3; 3 fat 3.
        Check.due("costs behind 3", x.all(3, 5), 11 + (3 + 2 + 1) + (2 + 3 + 2) + (3 + 3));
        x.force(0);
        Check.due("costs by text 0", x.all(3, 5), 1);
        whoStoodLongest();
        costsAreBound();
    }

    private static void whoStoodLongest() {
        WarmChairs x = new WarmChairs();
        x.one(5, 1, 0);
        x.one(3, 1, 0);
        x.one(3, 1, 0);
        Check.due("of like ones the first", x.all(3, 2), 0);
        Check.due("the longest", x.all(4, 2), 1);
        Check.due("the longest", x.all(30, 2), 1);
        Check.due("stood", x.all(30, 1), 25 + 27 + 27);
    }

    private static void costsAreBound() {
        WarmChairs x = new WarmChairs();
        for (int p = 0; p < 5; p++) x.one(0, 1, p);
        Check.law(x, "warm 0 ; first 0 ; costs 60 * number - 100 ;");
        Check.due("0, 0, 20, 80, 99", x.all(0, 5), 199);
    }

    private static void cold() {
        WarmChairs x = new WarmChairs();
        Check.due("no chair", x.cold(), 0);
        x.chair(0, 0);
        Check.due("warm till 9", x.cold(), 9);
        x.house(2, 30);
        Check.due("warm till 30", x.cold(), 30);
        x.house(2, 0);
        Check.due("never warm", x.cold(), 0);
        x.house(2, 29);
        Check.due("warm till 29", x.cold(), 29);
        x.house(2, 1);
        Check.due("warm in the first minute alone", x.cold(), 1);
        x.house(1, 2);
        Check.due("another is warm, which is not there", x.cold(), 0);
        x.house(1, 1);
        x.house(2, 10);
        x.one(9, 9, 0);
        // It sits from 9 on, rises in 18; the chair keeps warm till 21.
        Check.due("cold behind the last one", x.cold(), 21);
        x.one(20, 9, 0);
        // It sits from 20 on, rises in 29: warm till 32.
        Check.due("never cold", x.cold(), -1);
        Check.law(x, "warm 0 - ( minute < 29 ) + ( minute < 29 ) * 4 ; first 0 ; costs 0 ;");
        Check.due("cold at the end", x.cold(), 30);
        x.wish(1, 1, 1);
        Check.due("cold ahead of the end", x.cold(), 24);
        x.mend(0, 3, 0);
        Check.due("a stove is always warm", x.cold(), -1);
        coldBetween();
    }

    /** A chair that is cold for a while, and sat on till the end. */
    private static void coldBetween() {
        WarmChairs x = new WarmChairs();
        x.chair(0, 0);
        x.chair(0, 0);
        x.house(2, 1);
        x.one(0, 9, 0);
        x.one(0, 9, 0);
        Check.law(x, "warm 0 ; first 0 ; costs 0 ;");
        Check.due("sat on, not warm: not cold", x.cold(), 10);
        x.house(1, 0);
        Check.due("cold from the first", x.cold(), 0);
    }

    private static void changesNothing() {
        WarmChairs x = new WarmChairs();
        x.chair(0, 0);
        x.one(0, 2, 0);
        x.one(1, 2, 0);
        int before = x.all(30, 1);
        x.of(7, 0, 0);
        x.chairOf(3, 0, 1);
        x.cold();
        Check.due("what is asked changes nothing", x.all(30, 1), before);
        Check.due("nor this", x.of(1, 0, 0), 0);
    }
}
