/** Promise 26: play. */
public final class P26PlayTest {
    private P26PlayTest() {
    }

    public static void main(String[] args) {
        tellsHowManyOrders();
        anEmptyTextIsAChange();
        aFullTextIsDone();
        theyAreOneChange();
        theTextStays();
        eachOrderIsAsItsCall();
        notPossibleWithAFaultOfForm();
        notPossibleWithAFaultOfACall();
        notPossibleTheSecondTime();
        mendedItIsPossible();
        aFullHistoryDropsOne();
        Due.end();
    }

    private static SandWorkers typed(String text) {
        SandWorkers x = Due.players(2);
        Due.type(x, text);
        return x;
    }

    /** "Returns how many there are in it". */
    private static void tellsHowManyOrders() {
        StringBuilder text = new StringBuilder();
        for (int orders = 0; orders <= 20; orders++) {
            Due.is("P26 orders", typed(text.toString()).play(), orders);
            text.append("s1;");
        }
        Due.is("P26 an order of each form", typed("t3,0,0,0;w0,1,0;s60;h0,1;c0,1;b0,0;").play(), 6);
    }

    /** "They are one change, also if there are none." */
    private static void anEmptyTextIsAChange() {
        SandWorkers x = new SandWorkers();
        Due.is("P26 no orders", x.play(), 0);
        Due.is("P26 a state is kept", x.count(8), 1);
        Due.is("P26 undo", x.undo(), 0);
        SandWorkers y = Due.players(2);
        y.play();
        y.undo();
        Due.alike("P26 an empty text done and undone", y, Due.players(2));
    }

    private static void aFullTextIsDone() {
        String text = "t3,100,200,2;w0,0,0;w0,1,0;w1,0,0;s60;c999,20;c0,1;b1,1;s01";
        SandWorkers x = typed(text + ";");
        Due.is("P26 60 characters", x.count(9), 60);
        Due.is("P26 nine orders", x.play(), 9);
        Due.is("P26 61 seconds", x.count(3), 61);
        Due.is("P26 a point by the task, and one by the contract", x.playerOf(1, 3), 2);
        SandWorkers y = typed(text + "0;");
        Due.is("P26 60 characters without an end", y.count(9), 60);
        Due.is("P26 the last lacks its end", y.play(), Due.IMPOSSIBLE);
    }

    /** "They are one change". */
    private static void theyAreOneChange() {
        SandWorkers x = typed("t3,100,30,2;w1,0,0;s30;h1,0;c222,13;b1,0;s007;");
        int states = x.count(8);
        Due.is("P26 seven orders", x.play(), 7);
        Due.is("P26 one state more", x.count(8), states + 1);
        Due.is("P26 one undo", x.undo(), states);
        Due.alike("P26 done and undone", x, typed("t3,100,30,2;w1,0,0;s30;h1,0;c222,13;b1,0;s007;"));
    }

    /** "Does all orders of the text, which stays." */
    private static void theTextStays() {
        SandWorkers x = typed("s1;s2;s3;");
        x.play();
        Due.is("P26 the length", x.count(9), 9);
        Due.is("P26 once more", x.play(), 3);
        Due.is("P26 twice the seconds", x.count(3), 12);
        Due.type(x, "s4;");
        Due.is("P26 with one more", x.play(), 4);
        Due.is("P26 all seconds", x.count(3), 22);
    }

    private static void eachOrderIsAsItsCall() {
        SandWorkers x = typed("t2,100,30,2;w1,0,0;s30;h1,0;c222,13;c0,1;b1,0;s007;");
        SandWorkers y = typed("t2,100,30,2;w1,0,0;s30;h1,0;c222,13;c0,1;b1,0;s007;");
        x.play();
        y.task(2, 100, 30, 2);
        y.put(1, 0, 0);
        y.pass(30);
        y.home(1, 0);
        y.contract(222, 13);
        y.contract(0, 1);
        y.buy(1, 0);
        y.pass(7);
        // Four of the calls are kept as states, and so are four of these.
        x.pass(1);
        y.pass(1);
        x.contract(1, 1);
        y.contract(1, 1);
        Due.alikeNow("P26 as by calls", x, y);
        Due.is("P26 the points", x.playerOf(1, 3), 14);
        SandWorkers z = typed("t1,0,0,0;t3,0,0,0;c1,2;c3,4;b1,1;w1,2,1;");
        Due.is("P26 numbers above 0", z.play(), 6);
        Due.is("P26 put on the task 1", z.on(1, 0), 12);
        Due.is("P26 the contract 1 is bought", z.playerOf(1, 3), 4);
        Due.is("P26 the contract 0 is left", z.contractOf(0, 0), 1);
    }

    /** "NOT_POSSIBLE if it has a fault": nothing of those ahead of it is done. */
    private static void notPossibleWithAFaultOfForm() {
        for (String text : new String[] {"x", "s", "s1", "s1;s2;s3", "t1,0,0,0;w0,0,0;s5;c0,1;b0,0;h"}) {
            Due.refused("P26 " + text, () -> typed(text), x -> x.play(), Due.IMPOSSIBLE);
        }
    }

    private static void notPossibleWithAFaultOfACall() {
        String[] texts = {"s0;", "s1;s2;s0;", "t1,0,0,0;w0,0,0;s5;h0,0;", "c0,1;b0,0;b0,0;",
            "c0,1;c0,1;c0,1;c0,1;c0,1;c0,1;c0,1;"};
        for (String text : texts) {
            Due.refused("P26 " + text, () -> typed(text), x -> x.play(), Due.IMPOSSIBLE);
        }
        Due.refused("P26 later than 9999", () -> {
            SandWorkers x = typed("s399;s1;");
            Due.pass(x, 9600);
            return x;
        }, x -> x.play(), Due.IMPOSSIBLE);
    }

    private static void notPossibleTheSecondTime() {
        Due.refused("P26 the place is taken then", () -> {
            SandWorkers x = typed("t1,0,0,0;w0,0,0;");
            x.play();
            return x;
        }, x -> x.play(), Due.IMPOSSIBLE);
    }

    private static void mendedItIsPossible() {
        SandWorkers x = typed("s1;s2;s3");
        Due.is("P26 without its end", x.play(), Due.IMPOSSIBLE);
        x.type(';');
        Due.is("P26 with its end", x.play(), 3);
        SandWorkers y = typed("c600,3;b0,0;");
        Due.is("P26 without the price", y.play(), Due.IMPOSSIBLE);
        y.task(1, 0, 100, 0);
        y.put(0, 0, 0);
        y.pass(30);
        Due.is("P26 with the price", y.play(), 2);
        Due.is("P26 its points", y.playerOf(0, 3), 3);
    }

    private static void aFullHistoryDropsOne() {
        SandWorkers x = Due.players(4);
        Due.type(x, "s5;s6;");
        x.play();
        Due.is("P26 four states", x.count(8), 4);
        Due.is("P26 undo", x.undo(), 3);
        Due.is("P26 no second", x.count(3), 0);
        Due.is("P26 four players", x.count(0), 4);
    }
}
