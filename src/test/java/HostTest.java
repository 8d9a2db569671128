/** Promises 35 to 39: sheet, cell, copy, onesBy, taken. */
public final class HostTest {
    private static final int MIN = Integer.MIN_VALUE, MAX = Integer.MAX_VALUE;

    public static void main(String[] args) {
        sheet();
        cell();
        copy();
        overlap();
        onesBy();
        onesByFull();
        taken();
        Check.end();
    }

    private static void sheet() {
        WarmChairs x = new WarmChairs();
        int[][] due = {{-1, 0, 1, -2}, {4, 0, 1, -2}, {4, -1, 0, -2}, {0, -2, 1, -2}, {0, 3, 1, -2}, {0, 0, 41, -2},
            {0, 3, -1, -2}, {0, 0, MAX, -2}, {0, 0, -1, -14}, {0, 2, MIN, -14}, {3, -1, -5, 1}, {3, -1, 41, 1},
            {0, 0, 0, 1}, {0, 1, 40, 1}, {0, 2, 40, 1}};
        for (int[] d : due) {
            Check.due("sheet(" + d[0] + ", " + d[1] + ", " + d[2] + ")", x.sheet(d[0], d[1], d[2]), d[3]);
        }
        Check.due("40 there", x.cell(0, 39, 1), 1);
        Check.due("a refusal", x.sheet(0, 2, 41), -2);
        Check.due("changes nothing", x.cell(0, 39, 1), 1);
        Check.due("nor this", x.sheet(0, 2, -1), -14);
        Check.due("40 there yet", x.cell(0, 39, 1), 1);
        x.one(0, 1, 0);
        x.sheet(1, 2, 1);
        x.cell(1, 0, 7);
        Check.due("7 is otherwise", x.judge(1, 0), 0);
        x.sheet(1, 2, 1);
        Check.due("all 0 anew", x.judge(1, 0), -1);
        x.sheet(1, -1, 0);
        Check.due("missing", x.judge(1, 0), -11);
        Check.due("missing", x.cell(1, 0, 0), -11);
    }

    private static void cell() {
        WarmChairs x = new WarmChairs();
        Check.due("no such sheet", x.cell(4, 0, 0), -2);
        Check.due("no such sheet", x.cell(-1, 0, 0), -2);
        Check.due("missing", x.cell(0, -1, 0), -11);
        x.sheet(0, 0, 3);
        for (int i : new int[] {-1, 3, 40, MIN, MAX}) Check.due("place " + i, x.cell(0, i, 0), -12);
        for (int i = 0; i < 3; i++) Check.due("place " + i, x.cell(0, i, MAX), 1);
        x.sheet(1, 2, 0);
        Check.due("none there", x.cell(1, 0, 0), -12);
        // One that came by a sheet tells what its cells are.
        int[] cut = {0, 0, 1};
        for (int sort = 0; sort < 3; sort++) {
            x.sheet(2, sort, 3);
            x.cell(2, 0, 65536 * 7 + 11);
            x.cell(2, 1, 65536 * 9 + 5);
            x.cell(2, 2, 65536 + 6);
            Check.due("sort " + sort, x.onesBy(2, sort, 0, 1), 1 - cut[sort]);
        }
        Check.due("two came", x.count(3), 2);
        Check.due("by bytes", x.oneTold(0, 0) * 100 + x.oneTold(0, 1) * 10 + x.oneTold(0, 2), 1156);
        Check.due("by shorts", x.oneTold(1, 0) * 100 + x.oneTold(1, 1) * 10 + x.oneTold(1, 2), 1156);
        x.sheet(2, 1, 3);
        x.cell(2, 0, 256 + 1);
        x.cell(2, 1, 1);
        Check.due("257 of shorts is 257", x.onesBy(2, 1, 0, 1), 0);
        x.sheet(2, 0, 3);
        x.cell(2, 0, 256 + 1);
        x.cell(2, 1, 257);
        Check.due("257 of bytes is 1", x.onesBy(2, 0, 0, 1), 1);
        Check.due("FROM 1", x.oneTold(2, 0), 1);
    }

    private static void copy() {
        WarmChairs x = new WarmChairs();
        Check.due("no such sheet", x.copy(4, 0, 0, 0, 0), -2);
        Check.due("no such other", x.copy(0, 0, 4, 0, 0), -2);
        Check.due("no such other", x.copy(0, 0, -1, 0, 0), -2);
        Check.due("both missing", x.copy(0, 0, 1, 0, 0), -11);
        x.sheet(0, 2, 5);
        Check.due("the other is missing", x.copy(0, -1, 1, 0, 0), -11);
        Check.due("the one is missing", x.copy(1, 0, 0, 0, -1), -11);
        x.sheet(1, 1, 5);
        Check.due("unlike", x.copy(0, 0, 1, 0, 1), -13);
        Check.due("unlike, ahead of outside", x.copy(0, -1, 1, 0, -1), -13);
        x.sheet(1, 2, 3);
        int[][] outside = {{0, 0, -1}, {-1, 0, 1}, {0, -1, 1}, {0, 0, 4}, {3, 0, 3}, {0, 1, 3}, {5, 0, 1}, {0, 3, 1},
            {6, 0, 0}, {0, 4, 0}, {-1, 0, 0}, {MAX, 0, 1}, {0, MAX, 1}, {0, 0, MAX}, {1, 1, MAX}, {MIN, 0, 0},
            {0, 0, MIN}, {MAX, MAX, MAX}};
        for (int[] o : outside) {
            Check.due("outside " + o[0] + " " + o[1] + " " + o[2], x.copy(0, o[0], 1, o[1], o[2]), -12);
        }
        Check.due("none at the end", x.copy(0, 5, 1, 3, 0), 0);
        Check.due("three", x.copy(0, 2, 1, 0, 3), 3);
        Check.due("one", x.copy(0, 4, 1, 2, 1), 1);
        for (int p = 0; p < 3; p++) x.one(0, 1, 0);
        for (int i = 0; i < 5; i++) x.cell(0, i, i + 10);
        x.copy(0, 1, 1, 1, 2);
        Check.due("what was ahead stays", x.judge(1, 0), 1);
        x.cell(0, 0, 0);
        x.copy(0, 0, 1, 1, 1);
        Check.due("one came", x.judge(1, 0), 2);
        x.copy(0, 0, 1, 2, 1);
        Check.due("all came", x.judge(1, 0), -1);
    }

    /** Within a sheet the numbers come as they were. */
    private static void overlap() {
        WarmChairs x = new WarmChairs();
        x.sheet(0, 2, 7);
        int[] v = {3, 1, 4, 1, 5, 9, 2};
        for (int i = 0; i < 7; i++) x.cell(0, i, v[i]);
        Check.due("to the right", x.copy(0, 0, 0, 1, 6), 6);
        // Now 3 3 1 4 1 5 9.
        Check.due("two come", x.onesBy(0, 2, 0, 2), 2);
        Check.due("one 0", x.oneTold(0, 0) * 100 + x.oneTold(0, 1) * 10 + x.oneTold(0, 2), 331);
        Check.due("one 1", x.oneTold(1, 0) * 100 + x.oneTold(1, 1) * 10 + x.oneTold(1, 2), 415);
        Check.due("to the left", x.copy(0, 2, 0, 0, 5), 5);
        // Now 1 4 1 5 9 5 9.
        Check.due("two come", x.onesBy(0, 2, 0, 2), 2);
        Check.due("one 2", x.oneTold(2, 0) * 100 + x.oneTold(2, 1) * 10 + x.oneTold(2, 2), 141);
        Check.due("one 3", x.oneTold(3, 0) * 100 + x.oneTold(3, 1) * 10 + x.oneTold(3, 2), 595);
    }

    private static void onesBy() {
        WarmChairs x = new WarmChairs();
        Check.due("no such sheet", x.onesBy(4, 0, 0, 0), -2);
        Check.due("no such sheet", x.onesBy(-1, 0, 0, 0), -2);
        Check.due("no such sort", x.onesBy(0, 3, 0, 0), -2);
        Check.due("no such sort", x.onesBy(0, -1, 0, 0), -2);
        Check.due("n 6", x.onesBy(0, 0, 0, 6), -2);
        Check.due("n -1", x.onesBy(0, 0, 0, -1), -2);
        Check.due("missing", x.onesBy(0, 0, 0, 0), -11);
        x.sheet(0, 1, 8);
        Check.due("of another sort", x.onesBy(0, 0, -1, 1), -13);
        Check.due("of another sort", x.onesBy(0, 2, 0, 0), -13);
        Check.due("none of them", x.onesBy(0, 1, 0, 0), 0);
        Check.due("none of them, wherever", x.onesBy(0, 1, -9, 0), 0);
        for (int at : new int[] {-1, 6, 8, MIN, MAX, MAX - 2}) {
            Check.due("at " + at, x.onesBy(0, 1, at, 1), -12);
        }
        Check.due("LONG 0 is left out", x.onesBy(0, 1, 0, 2), 0);
        int[] v = {0, 2, 4, 6, 8, 1, 3, 5};
        for (int i = 0; i < 8; i++) x.cell(0, i, v[i]);
        Check.due("two from 2 on", x.onesBy(0, 1, 2, 2), 2);
        Check.due("one 0", x.oneTold(0, 0) * 100 + x.oneTold(0, 1) * 10 + x.oneTold(0, 2), 468);
        Check.due("one 1", x.oneTold(1, 0) * 100 + x.oneTold(1, 1) * 10 + x.oneTold(1, 2), 135);
        Check.due("the third is outside", x.onesBy(0, 1, 0, 3), -12);
        Check.due("what stood ahead came", x.count(3), 4);
        x.cell(0, 0, 30);
        Check.due("one is left out, one comes", x.onesBy(0, 1, 0, 2), 1);
        Check.due("five", x.count(3), 5);
    }

    private static void onesByFull() {
        WarmChairs x = new WarmChairs();
        x.sheet(0, 0, 40);
        for (int i = 0; i < 40; i++) x.cell(0, i, 1);
        x.one(0, 1, 0);
        x.one(0, 1, 0);
        Check.due("three have room", x.onesBy(0, 0, 25, 5), 3);
        Check.due("none has", x.onesBy(0, 0, 0, 5), 0);
        Check.due("none has, and one is outside", x.onesBy(0, 0, 38, 1), -12);
        Check.due("five are there", x.count(3), 5);
    }

    private static void taken() {
        WarmChairs x = new WarmChairs();
        Check.due("kind -1", x.taken(-1, -1), -2);
        Check.due("kind 7", x.taken(11, 7), -2);
        Check.due("place -1", x.taken(-1, 6), -12);
        Check.due("place 11", x.taken(11, 6), -12);
        for (int i = 0; i < 11; i++) Check.due("nothing at " + i, x.taken(i, i < 5 ? 0 : 6), -11);
        for (int c = 0; c < 6; c++) x.chair(c, 1);
        for (int p = 0; p < 5; p++) x.one(0, p + 5, 0);
        for (int p = 0; p < 5; p++) {
            for (int kind = 0; kind < 6; kind++) Check.due("one as a chair", x.taken(p, kind), -13);
            Check.due("LONG", x.taken(p, 6), p + 5);
        }
        String[] is = {"0", "01", "02", "013", "024", "05"};
        for (int c = 0; c < 6; c++) {
            for (int kind = 0; kind < 6; kind++) {
                Check.due("kind " + c + " as " + kind, x.taken(5 + c, kind), is[c].indexOf('0' + kind) >= 0 ? c : -13);
            }
            Check.due("a chair as one", x.taken(5 + c, 6), -13);
        }
        x.mend(0, 3, 0);
        Check.due("mended", x.taken(5, 1), 0);
    }
}
