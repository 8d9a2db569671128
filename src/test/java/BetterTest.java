/** Promises 18 to 24: begin, take, order, invite, late, lent, move. */
public final class BetterTest {
    public static void main(String[] args) {
        refusals();
        begin();
        take();
        order();
        invite();
        late();
        lent();
        move();
        Check.end();
    }

    private static void refusals() {
        WarmChairs x = new WarmChairs();
        x.one(0, 1, 0);
        x.chair(0, 0);
        Check.due("begin(-1)", x.begin(-1), WarmChairs.BAD);
        Check.due("begin(2)", x.begin(2), WarmChairs.BAD);
        for (int what : new int[] {-1, 3, Integer.MAX_VALUE}) {
            Check.due("take", x.take(what), WarmChairs.BAD);
            Check.due("order", x.order(what), WarmChairs.BAD);
            Check.due("move", x.move(what), WarmChairs.BAD);
        }
        Check.due("late(1, 2)", x.late(1, 2), -5);
        Check.due("late(-1, 0)", x.late(-1, 0), -5);
        Check.due("late(0, 2)", x.late(0, 2), -7);
        Check.due("late(0, -1)", x.late(0, -1), -7);
        Check.due("lent(1, 0)", x.lent(1, 0), -100000);
        Check.due("lent(-1, 0)", x.lent(-1, 0), -100000);
        Check.due("lent(0, 2)", x.lent(0, 2), -100000);
        Check.due("lent(0, -1)", x.lent(0, -1), -100000);
    }

    private static void beginIs(String when, WarmChairs x, int which, int many) {
        Check.due("begin(0), " + when, x.begin(0), which);
        Check.due("begin(1), " + when, x.begin(1), many);
    }

    private static void begin() {
        WarmChairs x = new WarmChairs();
        beginIs("nobody", x, 0, 0);
        x.one(0, 9, 0);
        beginIs("no chair", x, -1, -1);
        x.chair(0, 0);
        beginIs("a chair", x, 1, 1);
        x.chair(0, 0);
        beginIs("the first of two", x, 1, 1);
        for (int p = 1; p < 5; p++) x.one(0, 9, 0);
        // Nine minutes each, and thirty in all: a chair serves three.
        beginIs("five on two", x, 3, 2);
        x.chair(0, 0);
        beginIs("five on three", x, 3, 2);
        Check.due("the house is as it was", x.count(1), 1);
        x.mend(0, 2, 0);
        // A draughty one keeps warm for one minute, which is enough for those who stand there.
        beginIs("five, one draughty", x, 3, 2);
        Check.law(x, "warm 3 - 3 * ( number = 0 ) ; first 0 ; costs 0 ;");
        beginIs("chair 0 is cold behind the first", x, 6, 2);
        x.house(2, 0);
        beginIs("warm for no minute", x, -1, -1);
        x.mend(1, 3, 9);
        x.wish(0, 1, 1);
        x.wish(1, 1, 1);
        x.wish(2, 1, 1);
        x.wish(3, 1, 1);
        x.wish(4, 1, 1);
        beginIs("a stove needs none", x, 0, 0);
    }

    private static void take() {
        WarmChairs x = new WarmChairs();
        Check.due("nobody", x.take(0) * 100 + x.take(1) * 10 + x.take(2), 0);
        // The stove is warm with till 0, and lets till 1 only; the chair keeps warm till 9.
        x.chair(0, 0);
        x.chair(3, 2);
        x.one(0, 9, 0);
        x.one(1, 9, 0);
        x.one(5, 1, 0);
        Check.law(x, "warm 0 ; first 0 ; costs 0 ;");
        // By 0 and 1: one 0 on the chair, one 1 on the stove, one 2 stands for ever (from 5 till 29).
        // By 2: one 0 on the stove, one 1 on the chair: so does one 2.
        Check.due("all alike: the first", x.take(0), 0);
        Check.due("who rises", x.take(1), 2);
        Check.due("who stood", x.take(2), 25);
        x.wish(1, 0, 6);
        // By 0: one 0 on the chair till 9: cold then; one 1 from 6 on, one 2 from 5 on stand for ever.
        // By 2: one 0 on the stove; one 2 on the chair in 5, which is cold behind; one 1 stands for ever.
        Check.due("style 2", x.take(0), 2);
        Check.due("who rises", x.take(1), 2);
        Check.due("who stood", x.take(2), 24);
        Check.due("the style is as it was", x.count(0), 0);
        x.house(0, 1);
        Check.due("whatever it is", x.take(0), 2);
        Check.due("stays", x.count(0), 1);
        takeTheGreatest();
    }

    private static void takeTheGreatest() {
        WarmChairs x = new WarmChairs();
        x.chair(3, 3);
        x.chair(0, 0);
        x.house(1, 2);
        x.house(2, 2);
        x.one(0, 9, 0);
        x.one(2, 1, 0);
        // By 1 one 0 takes the chair, and one 1 the stove in 2; by 0, 2 the chair is cold by then.
        Check.due("style 1", x.take(0), 1);
        Check.due("both rise", x.take(1), 2);
        Check.due("nobody stood", x.take(2), 0);
    }

    private static void order() {
        WarmChairs x = new WarmChairs();
        Check.due("nobody", x.order(0), 0);
        Check.due("nobody rises", x.order(1), 0);
        Check.due("nobody stood", x.order(2), 0);
        x.chair(0, 0);
        x.one(0, 9, 0);
        x.one(1, 1, 0);
        x.one(2, 2, 0);
        // As it is: 0 .. 8, 9, 10 .. 11: 8 and 8 stood. Best: 1 from 0, 2 from 1, 0 from 2: 0 and 0 and 1.
        // 1 from 0, 0 from 1, 2 from 2: 8 stood. 2 from 0, 1 from 1, 0 from 2: 1 and 1.
        Check.due("whose", x.order(0), 201);
        Check.due("who rises", x.order(1), 3);
        Check.due("who stood", x.order(2), 1);
        Check.due("nothing has changed", x.oneTold(0, 0) * 100 + x.oneTold(1, 0) * 10 + x.oneTold(2, 0), 12);
        x.wish(0, 1, 1);
        x.wish(2, 1, 1);
        Check.due("of like ones the first", x.order(0), 12);
        Check.due("nobody stood", x.order(2), 0);
        orderOfFive();
        orderForRises();
    }

    private static void orderOfFive() {
        WarmChairs x = new WarmChairs();
        x.chair(0, 0);
        x.house(2, 30);
        int[] longs = {5, 4, 3, 2, 1};
        int[] froms = {0, 1, 3, 6, 10};
        for (int p = 0; p < 5; p++) x.one(froms[p], longs[p], 0);
        // The short ones go first: each comes as the one ahead rises, so that nobody stands.
        Check.due("the last first", x.order(0), 43210);
        Check.due("all rise", x.order(1), 5);
        Check.due("nobody stood", x.order(2), 0);
    }

    /** More who rise go ahead of less that is stood. */
    private static void orderForRises() {
        WarmChairs x = new WarmChairs();
        x.chair(0, 0);
        x.house(2, 1);
        x.one(0, 1, 0);
        x.one(8, 9, 0);
        // As it is: 0 rises in 1, the chair is warm till 4, one 1 stands 22 minutes.
        // Changed: one 1 sits 0 .. 8, the chair is warm till 12: one 0 sits in 9.
        Check.due("changed", x.order(0), 10);
        Check.due("both rise", x.order(1), 2);
        Check.due("1 stood", x.order(2), 1);
    }

    private static void invite() {
        WarmChairs x = new WarmChairs();
        Check.due("nobody", x.invite(), 0);
        x.chair(0, 0);
        x.one(0, 9, 0);
        x.one(1, 1, 0);
        x.one(2, 2, 0);
        Check.due("three rise", x.invite(), 3);
        Check.due("froms", x.oneTold(0, 0) * 100 + x.oneTold(1, 0) * 10 + x.oneTold(2, 0), 201);
        Check.due("longs", x.oneTold(0, 1) * 100 + x.oneTold(1, 1) * 10 + x.oneTold(2, 1), 912);
        Check.due("so it is", x.all(30, 1), 1);
        Check.due("no better order", x.order(0), 12);
        x.house(1, 0);
        Check.due("all is cold", x.invite(), 0);
        Check.due("froms stay", x.oneTold(0, 0) * 100 + x.oneTold(1, 0) * 10 + x.oneTold(2, 0), 201);
    }

    private static void late() {
        WarmChairs x = new WarmChairs();
        x.one(0, 4, 0);
        Check.due("no chair: last", x.late(0, 0), -1);
        Check.due("no chair: first", x.late(0, 1), -1);
        x.chair(0, 0);
        Check.due("warm till 9", x.late(0, 0), 8);
        Check.due("from the first", x.late(0, 1), 0);
        x.house(2, 30);
        Check.due("it must rise by the end", x.late(0, 0), 25);
        x.one(3, 9, 0);
        x.wish(1, 0, 0);
        Check.law(x, "warm 0 ; first 1 - number ; costs 0 ;");
        // One 1 goes ahead in 0 and sits till 9, and then all is cold: one 0 never sits.
        Check.due("never", x.late(0, 0), -1);
        x.wish(1, 0, 5);
        // One 0 sits ahead of one 1 only from 0 .. 4 on.
        Check.due("ahead of one 1", x.late(0, 0), 4);
        x.wish(0, 0, 29);
        Check.due("whatever it is now", x.late(0, 0), 4);
        Check.due("it stays", x.oneTold(0, 0), 29);
        x.force(0);
        Check.due("one 1 keeps it warm till 17", x.late(0, 0), 16);
        x.chair(3, 0);
        x.house(1, 0);
        Check.due("a stove that never lets", x.late(0, 0), -1);
        firstByAnother();
        tooEarly();
    }

    /** The first minute need not be 0: one who comes too early is driven to the chair that is cold. */
    private static void firstByAnother() {
        WarmChairs x = new WarmChairs();
        x.chair(0, 0);
        x.house(2, 1);
        x.one(0, 9, 0);
        x.one(0, 5, 9);
        Check.law(x, "warm ( number = 0 ) * fat ; first 1 - number ; costs 0 ;");
        // One 1 sits 0 .. 4, and keeps it warm till 14. One 0 sits from 5 on.
        Check.due("from the first", x.late(0, 1), 0);
        Check.due("till 13", x.late(0, 0), 13);
        // One 1 as the last: it must be the first minute, as one 0 would leave it cold.
        Check.due("one 1: the last", x.late(1, 0), 0);
        x.wish(0, 2, 3);
        x.wish(1, 0, 1);
        Check.due("one 1: behind one 0 till 11", x.late(1, 0), 11);
    }

    /** Where those who stood longer go last, one may come too early. */
    private static void tooEarly() {
        WarmChairs x = new WarmChairs();
        x.chair(0, 0);
        x.house(2, 1);
        x.one(0, 5, 0);
        x.one(0, 3, 0);
        x.one(4, 9, 0);
        Check.law(x, "warm sat = 5 ; first stood ; costs 0 ;");
        // One 0 rises in 5, then the chair is warm for one minute; one 2 has stood 1 by then.
        Check.due("not ahead of 4", x.late(1, 1), 4);
        Check.due("not behind 5", x.late(1, 0), 5);
    }

    private static void lent() {
        WarmChairs x = new WarmChairs();
        x.chair(0, 0);
        x.chair(5, 0);
        x.chair(0, 0);
        x.house(1, 1);
        x.house(2, 2);
        x.one(0, 9, 0);
        x.one(0, 9, 0);
        x.one(0, 9, 0);
        Check.law(x, "warm 0 ; first 0 ; costs 0 ;");
        // One 0 on chair 0, one 1 on the bench, one 2 stands 30.
        Check.due("all", x.all(30, 0) * 100 + x.all(30, 1), 230);
        Check.due("without 0: fewer", x.lent(0, 0), 2);
        Check.due("without 0: stood more", x.lent(0, 1), 60);
        Check.due("without the bench: fewer", x.lent(1, 0), 1);
        Check.due("without the bench: stood more", x.lent(1, 1), 30);
        Check.due("without 2: fewer", x.lent(2, 0), 0);
        Check.due("without 2: stood more", x.lent(2, 1), 0);
        Check.due("all is as it was", x.all(30, 0) * 100 + x.all(30, 1), 230);
        x.house(1, 4);
        Check.due("its neighbours' numbers are as they are", x.lent(0, 0), 0);
        Check.due("without 2", x.lent(2, 0), 2);
        lentIsBetter();
        lentIsNoNeighbour();
    }

    /** A chair that does harm: without it more rise. */
    private static void lentIsBetter() {
        WarmChairs x = new WarmChairs();
        x.chair(0, 0);
        x.chair(3, 1);
        x.house(1, 1);
        x.house(2, 9);
        x.one(0, 9, 0);
        x.one(1, 9, 0);
        x.house(0, 0);
        Check.law(x, "warm 0 ; first 0 ; costs 0 ;");
        Check.due("one rises", x.all(30, 0), 1);
        Check.due("without the chair one rises", x.lent(0, 0), 0);
        x.wish(1, 0, 0);
        Check.due("without the stove fewer", x.lent(1, 0), 1);
        x.house(0, 2);
        x.wish(1, 0, 8);
        // One 0 takes the stove, one 1 the chair.
        Check.due("without the stove fewer", x.lent(1, 0), 1);
        x.wish(1, 0, 9);
        // Now one 1 stands 21; without the chair as well.
        Check.due("without the chair", x.lent(0, 1), 0);
        harm();
    }

    private static void harm() {
        WarmChairs x = new WarmChairs();
        x.chair(2, 0);
        x.chair(0, 0);
        x.house(1, 3);
        x.house(2, 1);
        x.one(0, 4, 0);
        x.one(5, 4, 0);
        Check.law(x, "warm 3 ; first 0 ; costs 0 ;");
        // One 0 sits on the draughty one till 4, which keeps warm till 5: one 1 stands 25 for ever.
        Check.due("one rises", x.all(30, 0), 1);
        Check.due("without it one more", x.lent(0, 0), -1);
        Check.due("and less is stood", x.lent(0, 1), -25);
    }

    /** A chair that is lent is warm as it was, but never sat on, so that no bench beside it is warm by it. */
    private static void lentIsNoNeighbour() {
        WarmChairs x = new WarmChairs();
        x.chair(5, 0);
        x.chair(3, 9);
        x.chair(5, 0);
        x.house(1, 0);
        for (int p = 0; p < 3; p++) x.one(0, 1, 0);
        Check.due("three rise", x.all(30, 0), 3);
        Check.due("none without the stove", x.lent(1, 0), 3);
        Check.due("90 stood", x.lent(1, 1), 90);
    }

    private static void moveIs(String when, WarmChairs x, int which, int rises, int stood) {
        Check.due("move(0), " + when, x.move(0), which);
        Check.due("move(1), " + when, x.move(1), rises);
        Check.due("move(2), " + when, x.move(2), stood);
    }

    private static void move() {
        WarmChairs x = new WarmChairs();
        moveIs("nothing there", x, -1, 0, 0);
        x.chair(2, 0);
        x.chair(0, 0);
        moveIs("nobody", x, -1, 0, 0);
        x.one(0, 4, 0);
        x.one(5, 4, 0);
        x.house(2, 1);
        Check.law(x, "warm 3 ; first 0 ; costs 0 ;");
        // On the draughty one it is warm till 5 only.
        moveIs("0 and 1", x, 1, 2, 0);
        Check.due("nothing has moved", x.chairTold(0, 0) * 10 + x.chairTold(1, 0), 20);
        x.chair(0, 0);
        moveIs("of like ones the first", x, 1, 2, 0);
        x.mend(1, 2, 0);
        moveIs("0 and 2", x, 2, 2, 0);
        x.mend(2, 1, 9);
        moveIs("the cushioned one", x, 2, 2, 0);
        x.wish(1, 0, 15);
        moveIs("the cushioned one keeps more", x, 2, 2, 0);
        x.wish(1, 0, 16);
        moveIs("none", x, -1, 1, 14);
        x.house(1, 2);
        x.wish(1, 0, 15);
        moveIs("1 and 2", x, 12, 2, 0);
        moveLessStood();
    }

    /** The one that is BETTER than others, even behind others that are BETTER. */
    private static void moveLessStood() {
        WarmChairs x = new WarmChairs();
        x.chair(0, 0);
        x.chair(0, 5);
        x.chair(3, 9);
        x.chair(5, 0);
        x.house(1, 1);
        x.one(0, 9, 0);
        x.one(0, 9, 0);
        x.one(0, 9, 0);
        // One 0 on chair 0, one 1 on the stove 2, one 2 on the bench beside: nobody stands.
        moveIs("none", x, -1, 3, 0);
        x.mend(2, 0, 0);
        x.mend(1, 4, 0);
        // One 0 on 0, others behind it: 9 and 18. With the bench beside 0: one stands 9.
        moveIs("the bench beside", x, 13, 3, 9);
    }
}
