/** Promises 7 to 10: feed, text, force, asks; and the grammar, the FAULT and the values of texts. */
public final class TextTest {
    private static final String REST = " ; first 0 ; costs 0 ;";

    public static void main(String[] args) {
        feed();
        text();
        tokens();
        places();
        openSigns();
        force();
        asks();
        values();
        bounds();
        namesOfParts();
        Check.end();
    }

    private static void feed() {
        WarmChairs x = new WarmChairs();
        Check.due("n 0", x.feed(0, 1, 1, 1, 1, 1), WarmChairs.BAD);
        Check.due("n 6", x.feed(6, 1, 1, 1, 1, 1), WarmChairs.BAD);
        Check.due("n -1", x.feed(-1, 1, 1, 1, 1, 1), WarmChairs.BAD);
        for (int at = 0; at < 5; at++) {
            for (int bad : new int[] {-1, 256, Integer.MIN_VALUE, Integer.MAX_VALUE}) {
                int[] v = {0, 0, 0, 0, 0};
                v[at] = bad;
                Check.due("byte " + at + " is " + bad, x.feed(1, v[0], v[1], v[2], v[3], v[4]), WarmChairs.BAD);
            }
        }
        Check.due("nothing came", x.count(7), 0);
        Check.due("one", x.feed(1, 0, 255, 255, 255, 255), 1);
        Check.due("two", x.feed(2, 0, 255, 1, 1, 1), 3);
        Check.due("three", x.feed(3, 0, 0, 0, 1, 1), 6);
        Check.due("four", x.feed(4, 0, 0, 0, 0, 1), 10);
        for (int k = 0; k < 29; k++) Check.due("five", x.feed(5, 0, 0, 0, 0, 0), 15 + 5 * k);
        Check.due("to 158", x.feed(3, 32, 32, 32, 32, 32), 158);
        Check.due("no room for 3", x.feed(3, 0, 0, 0, 0, 0), WarmChairs.FULL);
        Check.due("no room, but bad", x.feed(3, 0, 0, 0, 0, 256), WarmChairs.BAD);
        Check.due("none came", x.count(7), 158);
        Check.due("room for 2", x.feed(2, 0, 0, 0, 0, 0), 160);
        Check.due("no room for 1", x.feed(1, 0, 0, 0, 0, 0), WarmChairs.FULL);
        Check.due("160", x.count(7), 160);
        onesByOne();
    }

    /** Which of the five come, and in which order. */
    private static void onesByOne() {
        WarmChairs x = new WarmChairs();
        String text = "warm 4*3-2;first 1;costs 1;";
        int at = 0;
        for (int n = 1; at < text.length(); n = n % 5 + 1) {
            int many = Math.min(n, text.length() - at);
            int[] v = new int[5];
            for (int k = 0; k < 5; k++) v[k] = k < many ? text.charAt(at + k) : 255;
            x.feed(many, v[0], v[1], v[2], v[3], v[4]);
            at += many;
        }
        Check.due("a text by parts", x.text(), 1);
        x.force(1);
        Check.due("it says", x.asks(0, 0, 0, 0, 0), 10);
    }

    private static void text() {
        WarmChairs x = new WarmChairs();
        Check.due("an empty tape", x.text(), -100);
        Check.due("a text", Check.text(x, "warm 1 ; first 2 ; costs 3 ;"), 1);
        Check.due("the tape is empty", x.count(7), 0);
        Check.due("two texts", x.count(5), 2);
        Check.due("the law is as it was", x.count(6), 0);
        Check.due("a fault", Check.text(x, "warm 1 ; first ; costs 3 ;"), -115);
        Check.due("the tape is empty by a fault", x.count(7), 0);
        Check.due("still two texts", x.count(5), 2);
        for (int t = 2; t < 6; t++) Check.due("text " + t, Check.text(x, "warm " + t + REST), t);
        Check.feed(x, "warm 9" + REST);
        int size = x.count(7);
        Check.due("a seventh", x.text(), WarmChairs.FULL);
        Check.due("the tape stays", x.count(7), size);
        Check.feed(x, "$");
        Check.due("full ahead of a fault", x.text(), WarmChairs.FULL);
        Check.due("the tape stays once more", x.count(7), size + 1);
        Check.due("six texts", x.count(5), 6);
        for (int t = 2; t < 6; t++) {
            x.force(t);
            Check.due("what text " + t + " says", x.asks(0, 0, 0, 0, 0), t);
        }
    }

    private static void fault(String text, int place) {
        Check.due("fault of " + text, Check.text(new WarmChairs(), text), -100 - place);
    }

    private static void good(String text) {
        Check.due("no fault of " + text, Check.text(new WarmChairs(), text), 1);
    }

    private static void tokens() {
        good("warm1;first1;costs1;");
        good("warm 1;first 1;costs 1;  \n ");
        good("\n\n warm\n1\n;\nfirst\n1;costs 1;");
        good("warm 9999;first 0000;costs 1;");
        good("warm(fat)*more;first sat+stood;costs minute-number;");
        fault("warm 99999" + REST, 5);
        fault("warm 00001" + REST, 5);
        fault("warm 1 + 123456789012345" + REST, 9);
        fault("warm 1\t" + REST, 6);
        fault("warm 1\r" + REST, 6);
        fault("warm \0" + REST, 5);
        fault("warm " + (char) 255 + REST, 5);
        fault("warm fatt" + REST, 5);
        fault("warm fatz" + REST, 5);
        fault("warm afat" + REST, 5);
        fault("warm Fat" + REST, 5);
        fault("warm fa" + REST, 5);
        fault("warm f" + REST, 5);
        fault("warm `" + REST, 5);
        fault("warm {" + REST, 5);
        fault("warm /" + REST, 5);
        fault("warm :" + REST, 5);
        fault("warm 1 > 2" + REST, 7);
        fault("warm 1fat" + REST, 6);
        fault("warmfat" + REST, 0);
        fault("warm fat1" + REST, 8);
        fault("warm notfat" + REST, 5);
        good("warm not(fat)and(more)or(sat)" + REST);
        good("warm 1or 2and 3" + REST);
    }

    private static void places() {
        fault("", 0);
        fault("   ", 3);
        fault("first 1 ;", 0);
        fault("a", 0);
        fault("warm", 4);
        fault("warm 1", 6);
        fault("warm 1  ", 8);
        fault("warm 1 ; first 1 ; costs 1", 26);
        fault("warm 1 ; first 1 ; costs 1 ; ;", 29);
        fault("warm 1 ; first 1 ; costs 1 ; warm", 29);
        fault("warm 1 ; first 1 ; costs 1 ; 1", 29);
        fault("warm 1 ; first 1 ; costs 1 ; fat", 29);
        fault("warm 1 ; first 1 ; costs 1 ; $", 29);
        fault("warm 1 ; costs 1 ; first 1 ;", 9);
        fault("warm ; $", 5);
        fault("warm 1 2 $", 7);
        fault("warm 1 fat" + REST, 7);
        fault("warm 1 ( 2 )" + REST, 7);
        fault("warm 1 not 2" + REST, 7);
        fault("warm 1 +" + REST, 9);
        fault("warm + 1" + REST, 5);
        fault("warm * 1" + REST, 5);
        fault("warm 1 - - 1 * - 2 + * 3" + REST, 21);
        fault("warm 1 + not 2" + REST, 9);
        fault("warm 1 * not 2" + REST, 9);
        fault("warm 1 < not 2" + REST, 9);
        fault("warm - not 2" + REST, 7);
        good("warm not 1 and not not 2 or not 3" + REST);
        good("warm ( not 1 ) + ( 1 or 2 )" + REST);
        fault("warm 1 < 2 < 3" + REST, 11);
        fault("warm 1 = 2 < 3" + REST, 11);
        good("warm ( 1 < 2 ) < 3 and 1 = 2" + REST);
        fault("warm ( 1" + REST, 9);
        fault("warm ( )" + REST, 7);
        fault("warm 1 )" + REST, 7);
        fault("warm 1 and" + REST, 11);
        fault("warm or 1" + REST, 5);
        fault("warm 1 or or 1" + REST, 10);
        fault("warm warm" + REST, 5);
        fault("warm 1 ; first first ; costs 1 ;", 15);
        fault("warm 1 ; first 1 ; costs ( 1 ;", 29);
    }

    private static void openSigns() {
        good("warm (((((1)))))" + REST);
        fault("warm ((((((1))))))" + REST, 10);
        good("warm -----1" + REST);
        fault("warm ------1" + REST, 10);
        good("warm not not not not not 1" + REST);
        fault("warm not not not not not not 1" + REST, 25);
        good("warm not(-(not 1))" + REST);
        fault("warm not(-(not(1)))" + REST, 14);
        good("warm -(-(-1))" + REST);
        fault("warm -(-(-(1)))" + REST, 10);
        fault("warm not(-(-(1)))" + REST, 12);
        fault("warm ((((not -1))))" + REST, 13);
        good("warm (((( -1)))) - 1 - (((( -2))))" + REST);
        good("warm (((((1 - 1 - 1)))))" + REST);
        fault("warm (((((1 - -1)))))" + REST, 14);
        good("warm ((((-1)+(-1)*(-1))))" + REST);
        good("warm ((((-1*-1*-1+-1 < -1))))" + REST);
        // A not is open till its NOT ends: past < , but not past and.
        good("warm (((not 1 < -1)))" + REST);
        fault("warm ((((not 1 < -1))))" + REST, 17);
        good("warm ((((not 1 and -1))))" + REST);
        good("warm ((((not 1 or not 1))))" + REST);
        // A - is open till its ONE ends.
        good("warm ((((-1 - -1))))" + REST);
        fault("warm ((((-(1)))))" + REST, 10);
        good("warm ((((-1))))+(((((1)))))" + REST);
        // What is open in one part is none of the next one's.
        fault("warm ((((( ; first", 11);
        good("warm (((((1))))) ; first (((((1))))) ; costs -----1 ;");
    }

    private static void force() {
        WarmChairs x = new WarmChairs();
        Check.due("force(1)", x.force(1), WarmChairs.BAD);
        Check.due("force(-1)", x.force(-1), WarmChairs.BAD);
        Check.due("force(6)", x.force(6), WarmChairs.BAD);
        Check.due("force(0)", x.force(0), 0);
        Check.text(x, "warm 7 ; first 8 ; costs 9 ;");
        Check.text(x, "warm 17 ; first 18 ; costs 19 ;");
        Check.due("force(2)", x.force(2), 0);
        Check.due("the law", x.count(6), 2);
        Check.due("force(1)", x.force(1), 2);
        Check.due("force(3)", x.force(3), WarmChairs.BAD);
        Check.due("the law stays", x.count(6), 1);
        for (int part = 0; part < 3; part++) Check.due("asks", x.asks(part, 0, 0, 0, 0), 7 + part);
        Check.due("force(0)", x.force(0), 1);
        Check.due("text 0 says", x.asks(0, 45, 0, 0, 0), 12);
    }

    private static void asks() {
        WarmChairs x = new WarmChairs();
        Check.due("text 0: warm", x.asks(0, 29, 999, 30, 9), 14);
        Check.due("text 0: warm of fat alone", x.asks(0, 50, 0, 0, 0), 8);
        Check.due("text 0: warm of the most", x.asks(0, 99, 999, 30, 9), 21);
        Check.due("text 0: first", x.asks(1, 29, 999, 30, 9), 30);
        Check.due("text 0: costs", x.asks(2, 29, 999, 30, 9), 99);
        Check.due("text 0: costs, sat is no matter", x.asks(2, 29, 47, 30, 9), 4);
        int[][] bad = {{-1, 0, 0, 0, 0}, {3, 0, 0, 0, 0}, {0, -1, 0, 0, 0}, {0, 100, 0, 0, 0}, {0, 0, -1, 0, 0},
            {0, 0, 1000, 0, 0}, {0, 0, 0, -1, 0}, {0, 0, 0, 31, 0}, {0, 0, 0, 0, -1}, {0, 0, 0, 0, 10}};
        for (int[] b : bad) Check.due("asks() that is bad", x.asks(b[0], b[1], b[2], b[3], b[4]), WarmChairs.BAD);
        String[] names = {"fat", "more", "sat", "stood", "minute", "number"};
        int[] due = {3, 4, 5, 67, 28, 9};
        for (int k = 0; k < 6; k++) {
            WarmChairs y = new WarmChairs();
            Check.law(y, "warm " + names[k] + " ; first " + names[k] + " + 1 ; costs " + names[k] + " + 2 ;");
            for (int part = 0; part < 3; part++) {
                Check.due(names[k] + " of part " + part, y.asks(part, 34, 675, 28, 9), due[k] + part);
            }
        }
    }

    private static void says(String e, int due) {
        WarmChairs x = new WarmChairs();
        Check.law(x, "warm " + e + REST);
        Check.due(e, x.asks(0, 34, 675, 28, 9), due);
    }

    private static void values() {
        says("2 + 3 * 4", 14);
        says("( 2 + 3 ) * 4", 20);
        says("20 - 3 - 4", 13);
        says("20 - ( 3 - 4 )", 21);
        says("2 * - 3 + 10", 4);
        says("- - 3", 3);
        says("- ( 2 - 9 )", 7);
        says("0 - -5", 5);
        says("7 or 0", 1);
        says("0 or 0", 0);
        says("7 and 5", 1);
        says("7 and 0", 0);
        says("0 or 2 and 0", 0);
        says("2 or 2 and 0", 1);
        says("not 0", 1);
        says("not 7", 0);
        says("not not 7", 1);
        says("not - 7", 0);
        says("7", 7);
        says("( 7 )", 7);
        says("1 < 2", 1);
        says("2 < 2", 0);
        says("3 < 2", 0);
        says("- 3 < 2", 1);
        says("2 = 2", 1);
        says("2 = 3", 0);
        says("1 + 1 = 2", 1);
        says("2 * 3 < 2 + 3", 0);
        says("not 1 < 2", 0);
        says("not 1 = 2", 1);
        says("not 0 and 0", 0);
        says("not 1 or 1", 1);
        says("1 < 2 and 2 < 3", 1);
        says("( 3 < 4 ) * 5 + ( 4 < 3 ) * 6", 5);
        says("fat * more - stood + minute * number - sat * 20", 97);
        says("fat * 10 + more", 34);
        says("stood - minute", 39);
        says("0017", 17);
        // 9999 * 9999 * 9999 is 999700029999: less 233 times 2 to the 32nd, that is -1027349969.
        says("9999 * 9999 * 9999 < 0", 1);
        says("9999 * 9999 * 9999 = 0 - " + digits(1027349969), 1);
        says("9999 * 9999 * 9999 = 1 - " + digits(1027349969), 0);
        // As many operands wait as ever can.
        for (int least = 0; least < 2; least++) {
            String level = "0or 1and 0<0+1*";
            says((level + "(").repeat(5) + level + least + ")))))", least);
        }
        says("1024 * 1024 * 2048 < 0", 1);
        says("1024 * 1024 * 2048 - 1 < 0", 0);
        says("1024 * 1024 * 2048 = - ( 1024 * 1024 * 2048 )", 1);
        says("1024 * 1024 * 4096", 0);
        says("1024 * 1024 * 4096 + 5", 5);
    }

    /** A number above 0 out of numbers of four digits. */
    private static String digits(int v) {
        if (v <= 9999) return String.valueOf(v);
        return "( " + digits(v / 9999) + " * 9999 + " + v % 9999 + " )";
    }

    /** What a part says is 0 .. 99, else the bound. */
    private static void bounds() {
        says("99", 99);
        says("100", 99);
        says("9999 * 9999", 99);
        says("0 - 1", 0);
        says("1024 * 1024 * 2048", 0);
        says("1024 * 1024 * 2048 - 1", 99);
        says("200 - 150", 50);
        says("150 - 200 + 60", 10);
        WarmChairs x = new WarmChairs();
        Check.law(x, "warm 0 - fat ; first 100 + fat ; costs 0 - 2 ;");
        Check.due("warm below 0", x.asks(0, 50, 0, 0, 0), 0);
        Check.due("first above 99", x.asks(1, 50, 0, 0, 0), 99);
        Check.due("costs below 0", x.asks(2, 50, 0, 0, 0), 0);
    }

    /** What the names are in warm, first and costs of an evening. */
    private static void namesOfParts() {
        String[] names = {"fat", "more", "sat", "stood", "minute", "number"};
        // One 1 comes in minute 2, stands 3 minutes, sits from 5 on, for 4 minutes, and rises in 9.
        int[] warm = {6, 3, 4, 3, 9, 1};
        int[] costs = {6, 0, 4, 3, 30, 1};
        for (int k = 0; k < 6; k++) {
            WarmChairs x = new WarmChairs();
            x.chair(0, 0);
            x.chair(2, 3);
            x.house(1, 2);
            x.house(2, 30);
            x.one(0, 5, 0);
            x.one(2, 4, 6);
            x.mend(1, 0, 3);
            Check.law(x, "warm ( sat = 5 ) * 9 + ( sat = 4 ) * " + names[k]
                + " ; first number ; costs ( number = 1 ) * " + names[k] + " ;");
            Check.due("till by warm " + names[k], x.chairOf(10, 1, 1), Math.max(0, 9 + warm[k] - 10));
            Check.due("risen in", x.of(10, 1, 3), 9);
            Check.due("costs by " + names[k], x.all(10, 5), costs[k]);
        }
    }
}
