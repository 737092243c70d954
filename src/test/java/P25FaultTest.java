/** Promise 25: fault. */
public final class P25FaultTest {
    /** An order of each form with numbers of each length; the later ones need those ahead. */
    private static final String[] ORDERS = {
        "t1,0,0,0;", "t01,010,999,2;", "t003,123,004,01;", "w0,1,0;", "w00,02,000;", "s90;", "s005;",
        "h0,1;", "h000,002;", "c7,20;", "c090,001;", "b0,0;", "b00,001;"};
    private static final String SETUP = "t3,0,0,0;w0,1,0;w0,2,0;s90;c0,1;c0,1;";

    private P25FaultTest() {
    }

    public static void main(String[] args) {
        noSuchWhat();
        notFoundForAnEmptyText();
        notFoundWithoutAFault();
        invalidRatherThanNotFound();
        signsThatBeginNoOrder();
        numbersFromOneToThreeDigits();
        zerosAheadAreAllowed();
        aTextThatEndsTooEarly();
        aWrongSignAtEachPlace();
        numbersOfEachOrderTooFewOrTooMany();
        theLastOrderLacksItsEnd();
        thePositionIsThatOfTheOrder();
        theFirstFaultCounts();
        formComesAheadOfTheCall();
        aTextIsReadOrderByOrder();
        taskErrors();
        putErrors();
        homeErrors();
        contractErrors();
        buyErrors();
        passErrors();
        thoseAheadAreDone();
        itIsToldInThePresentState();
        changesNothing();
        Due.end();
    }

    private static SandWorkers typed(String text) {
        SandWorkers x = Due.players(1);
        Due.type(x, text);
        return x;
    }

    private static void fault(SandWorkers x, String text, int position, int reason, int cause) {
        Due.is("P25 position of " + text, x.fault(0), position);
        Due.is("P25 reason of " + text, x.fault(1), reason);
        Due.is("P25 cause of " + text, x.fault(2), cause);
    }

    private static void form(String text, int position, int cause) {
        fault(typed(text), text, position, 1, cause);
    }

    private static void call(String text, int position, int cause) {
        fault(typed(text), text, position, 2, cause);
    }

    private static void fine(SandWorkers x, String text) {
        fault(x, text, Due.MISSING, Due.MISSING, Due.MISSING);
    }

    /** Where an order of this form can be done at once. */
    private static SandWorkers ready() {
        SandWorkers x = Due.players(1);
        Due.type(x, SETUP);
        x.play();
        x.clearText();
        return x;
    }

    /** "INVALID_ARGUMENT if what is out of range". */
    private static void noSuchWhat() {
        for (int what : Due.outside(0, 2)) {
            Due.looks("P25 what " + what, () -> typed("s1;x"), x -> x.fault(what), Due.INVALID);
        }
    }

    /** "NOT_FOUND .. (also if it is empty)". */
    private static void notFoundForAnEmptyText() {
        fine(new SandWorkers(), "nothing");
        SandWorkers x = typed("x");
        x.clearText();
        fine(x, "nothing again");
    }

    /** "NOT_FOUND if the text has no fault". */
    private static void notFoundWithoutAFault() {
        for (String order : ORDERS) {
            SandWorkers x = ready();
            Due.type(x, order);
            fine(x, order);
        }
        fine(typed("t3,0,0,0;w0,1,0;s60;h0,1;c0,1;b0,0;"), "an order of each form");
    }

    private static void invalidRatherThanNotFound() {
        for (int what : Due.outside(0, 2)) {
            Due.is("P25 what " + what + ", empty", new SandWorkers().fault(what), Due.INVALID);
        }
    }

    private static void signsThatBeginNoOrder() {
        for (int sign = 32; sign <= 126; sign++) {
            boolean begins = "twhcbs".indexOf(sign) >= 0;
            SandWorkers x = new SandWorkers();
            x.type(sign);
            fault(x, "the sign " + sign, 0, 1, begins ? 1 : 0);
        }
    }

    /** "numbers of 1 to 3 digits". */
    private static void numbersFromOneToThreeDigits() {
        form("s;", 0, 1);
        fine(typed("s1;"), "s1;");
        fine(typed("s12;"), "s12;");
        fine(typed("s123;"), "s123;");
        form("s1234;", 0, 4);
        form("t,0,0,0;", 0, 1);
        form("t1,,0,0;", 0, 3);
        form("t1,0,,0;", 0, 5);
        form("t1,0,0,;", 0, 7);
        form("t0001,0,0,0;", 0, 4);
        form("t1,0000,0,0;", 0, 6);
        form("t1,0,0000,0;", 0, 8);
        form("t1,0,0,0000;", 0, 10);
        form("w,0,0;", 0, 1);
        form("w0,0,;", 0, 5);
        form("w0,0,0000;", 0, 8);
        form("h0000,0;", 0, 4);
        form("h0,;", 0, 3);
        form("c1000,1;", 0, 4);
        form("c0,0020;", 0, 6);
        form("b,0;", 0, 1);
        form("b0,0000;", 0, 6);
    }

    /** "0 ahead allowed". */
    private static void zerosAheadAreAllowed() {
        SandWorkers x = typed("t001,005,099,02;c007,020;s09;");
        fine(x, "zeros ahead");
        x.play();
        Due.is("P25 the cost", x.taskOf(0, 1), 5);
        Due.is("P25 the gain", x.taskOf(0, 2), 99);
        Due.is("P25 the price", x.contractOf(0, 0), 7);
        Due.is("P25 the points", x.contractOf(0, 1), 20);
        Due.is("P25 the seconds", x.count(3), 9);
    }

    /** "of one that the text ends too early it is its length". */
    private static void aTextThatEndsTooEarly() {
        for (String order : ORDERS) {
            for (int length = 1; length < order.length(); length++) {
                SandWorkers x = ready();
                Due.type(x, order.substring(0, length));
                fault(x, order.substring(0, length), 0, 1, length);
            }
        }
    }

    /** "at which character of the order, from 0, it breaks off". */
    private static void aWrongSignAtEachPlace() {
        for (String order : ORDERS) {
            for (int at = 0; at < order.length(); at++) {
                for (char wrong : new char[] {'x', ' ', '/', ':', '-', '.'}) {
                    String text = order.substring(0, at) + wrong + order.substring(at + 1);
                    SandWorkers x = ready();
                    Due.type(x, text);
                    fault(x, text, 0, 1, at);
                }
            }
        }
    }

    private static void numbersOfEachOrderTooFewOrTooMany() {
        form("t1,0,0;", 0, 6);
        form("t1,0,0,0,0;", 0, 8);
        form("w0,0;", 0, 4);
        form("w0,0,0,0;", 0, 6);
        form("h0;", 0, 2);
        form("h0,0,0;", 0, 4);
        form("c0;", 0, 2);
        form("c0,1,1;", 0, 4);
        form("b0;", 0, 2);
        form("b0,0,0;", 0, 4);
        form("s1,1;", 0, 2);
    }

    /** "its \";\" included". */
    private static void theLastOrderLacksItsEnd() {
        form("s1", 0, 2);
        form("s1;s1", 3, 2);
        form("s1;c0,1", 3, 4);
        form("s1,", 0, 2);
        form("s1 ;", 0, 2);
        form("s1s1;", 0, 2);
    }

    /** "the position, from 0, of the first character of the first order that is not possible". */
    private static void thePositionIsThatOfTheOrder() {
        form("x", 0, 0);
        form("s1;x", 3, 0);
        form("s1;s02;x", 7, 0);
        form("s1;s02;s3x;", 7, 2);
        call("s1;s02;s003;s0;", 12, Due.INVALID);
        StringBuilder text = new StringBuilder();
        for (int i = 0; i < 19; i++) {
            text.append("s1;");
        }
        call(text + "s0;", 57, Due.INVALID);
        form(text + "s1,", 57, 2);
        form(text + "s1;".substring(0, 2), 57, 2);
        form(text + "s", 57, 1);
    }

    private static void theFirstFaultCounts() {
        call("s0;x", 0, Due.INVALID);
        form("x;s0;", 0, 0);
        call("s1;h0,0;s0;", 3, Due.IMPOSSIBLE);
        form("s1;;s0;", 3, 0);
    }

    /** "its reason is 1 if it is not of this form, .. and otherwise 2". */
    private static void formComesAheadOfTheCall() {
        form("s0", 0, 2);
        form("s999x", 0, 4);
        form("w9,9,9", 0, 6);
        form("t9,9,9,9,", 0, 8);
        form("b9,9x", 0, 4);
    }

    /** A fault of the form behind an order that is not possible is not looked at. */
    private static void aTextIsReadOrderByOrder() {
        call("w0,0,0;%", 0, Due.INVALID);
        call("s1;w0,0,0;t", 3, Due.INVALID);
    }

    /** "with the reason 2 the error code that the call returns for it". */
    private static void taskErrors() {
        call("t0,0,0,0;", 0, Due.INVALID);
        call("t4,0,0,0;", 0, Due.INVALID);
        call("t1,0,0,3;", 0, Due.INVALID);
        call("t1,0,0,999;", 0, Due.INVALID);
        SandWorkers x = new SandWorkers();
        for (int i = 0; i < 7; i++) {
            x.task(1, 0, 0, 0);
        }
        Due.type(x, "t3,999,999,2;t1,0,0,0;");
        fault(x, "a ninth task", 13, 2, Due.LIMIT);
        x.clearText();
        Due.type(x, "t3,999,999,2;t1,0,0,3;");
        fault(x, "a ninth task, invalid", 13, 2, Due.INVALID);
    }

    private static void putErrors() {
        call("w0,0,0;", 0, Due.INVALID);
        call("t1,0,0,0;w1,0,0;", 9, Due.INVALID);
        call("t1,0,0,0;w0,3,0;", 9, Due.INVALID);
        call("t1,0,0,0;w0,0,1;", 9, Due.INVALID);
        call("t1,0,0,0;w0,0,0;w0,1,0;", 16, Due.IMPOSSIBLE);
        call("t2,0,0,0;w0,0,0;w0,0,0;", 16, Due.IMPOSSIBLE);
        call("t1,600,0,0;w0,0,0;", 11, Due.IMPOSSIBLE);
    }

    private static void homeErrors() {
        call("h1,0;", 0, Due.INVALID);
        call("h0,3;", 0, Due.INVALID);
        call("h0,0;", 0, Due.IMPOSSIBLE);
        call("t1,0,0,0;w0,0,0;s29;h0,0;", 20, Due.IMPOSSIBLE);
        fine(typed("t1,0,0,0;w0,0,0;s30;h0,0;"), "home at the last second");
    }

    private static void contractErrors() {
        call("c0,0;", 0, Due.INVALID);
        call("c0,21;", 0, Due.INVALID);
        call("c999,999;", 0, Due.INVALID);
        call("c0,1;c0,1;c0,1;c0,1;c0,1;c0,1;c0,1;", 30, Due.LIMIT);
        call("c0,1;c0,1;c0,1;c0,1;c0,1;c0,1;c0,0;", 30, Due.INVALID);
        fine(typed("c0,1;c0,1;c0,1;c0,1;c0,1;c0,1;b0,0;c0,1;"), "a seventh in the room of one");
    }

    private static void buyErrors() {
        call("b0,0;", 0, Due.INVALID);
        call("c0,1;b1,0;", 5, Due.INVALID);
        call("c0,1;b0,1;", 5, Due.INVALID);
        call("c0,1;b0,0;b0,0;", 10, Due.INVALID);
        call("c600,1;b0,0;", 7, Due.IMPOSSIBLE);
        call("c300,1;c300,1;b0,0;b0,0;", 19, Due.IMPOSSIBLE);
    }

    private static void passErrors() {
        call("s0;", 0, Due.INVALID);
        call("s000;", 0, Due.INVALID);
        call("s601;", 0, Due.INVALID);
        call("s999;", 0, Due.INVALID);
        fine(typed("s1;s600;"), "the least and the most");
        SandWorkers x = Due.players(1);
        Due.pass(x, 9600);
        Due.type(x, "s399;s1;");
        fault(x, "later than 9999", 5, 2, Due.LIMIT);
        x.clearText();
        Due.type(x, "s399;s0;");
        fault(x, "0 seconds at 9999", 5, 2, Due.INVALID);
        x.clearText();
        Due.type(x, "s400;");
        fault(x, "10000", 0, 2, Due.LIMIT);
        x.clearText();
        Due.type(x, "s399;");
        fine(x, "9999");
    }

    /** "otherwise 2, when those ahead of it are done". */
    private static void thoseAheadAreDone() {
        fine(typed("t1,500,900,0;w0,0,0;s30;w0,0,0;"), "a cost that the gain pays");
        call("t1,500,0,0;w0,0,0;s30;w0,0,0;", 22, Due.IMPOSSIBLE);
        fine(typed("t1,0,400,0;w0,0,0;s30;c900,1;b0,0;"), "a price that the gain pays");
        call("t1,0,400,0;w0,0,0;s29;c900,1;b0,0;", 29, Due.IMPOSSIBLE);
    }

    private static void itIsToldInThePresentState() {
        SandWorkers x = typed("h0,0;");
        fault(x, "h0,0; at home", 0, 2, Due.IMPOSSIBLE);
        x.task(1, 0, 0, 0);
        x.put(0, 0, 0);
        fault(x, "h0,0; with sand above", 0, 2, Due.IMPOSSIBLE);
        x.pass(30);
        fine(x, "h0,0; with its sand out");
        x.home(0, 0);
        fault(x, "h0,0; at home again", 0, 2, Due.IMPOSSIBLE);
        x.undo();
        fine(x, "h0,0; behind undo");
    }

    private static void changesNothing() {
        for (int what = 0; what < 3; what++) {
            int which = what;
            int[] due = {29, 1, 0};
            Due.looks("P25 fault(" + what + ")", () -> typed("t1,0,0,0;c0,1;w0,0,0;b0,0;s5;x"),
                    x -> x.fault(which), due[what]);
            Due.looks("P25 no fault(" + what + ")", () -> typed("t1,0,0,0;c0,1;w0,0,0;b0,0;s5;"),
                    x -> x.fault(which), Due.MISSING);
        }
    }
}
