/** Promises 23 to 26: type, clearText, fault, play. */
public final class TextsTest {
    private static final int[] FAR = {Integer.MIN_VALUE, -1, Integer.MAX_VALUE};

    private TextsTest() {
    }

    public static void main(String[] args) {
        typeAppends();
        clearTextEmpties();
        faultOfForm();
        faultOfCalls();
        faultRefuses();
        faultChangesNothing();
        playDoesAll();
        playIsOneChange();
        playRefuses();
        Due.end();
    }

    private static void typeAppends() {
        SandWorkers x = new SandWorkers();
        for (int far : FAR) {
            Due.is("P23 " + far, x.type(far), Due.INVALID);
        }
        Due.is("P23 31", x.type(31), Due.INVALID);
        Due.is("P23 127", x.type(127), Due.INVALID);
        Due.is("P23 32", x.type(32), 1);
        Due.is("P23 126", x.type(126), 2);
        for (int i = 3; i <= 60; i++) {
            Due.is("P23 type", x.type('s'), i);
        }
        Due.is("P23 full", x.type('s'), Due.LIMIT);
        Due.is("P23 invalid rather than full", x.type(127), Due.INVALID);
        Due.is("P23 length", x.count(9), 60);
        Due.is("P23 no change", x.count(8), 0);
    }

    private static void clearTextEmpties() {
        SandWorkers x = new SandWorkers();
        Due.is("P24 empty", x.clearText(), 0);
        Due.type(x, "s1;s2;");
        Due.is("P24 had", x.clearText(), 6);
        Due.is("P24 empty again", x.count(9), 0);
        Due.is("P24 type starts anew", x.type('s'), 1);
        Due.is("P24 no change", x.count(8), 0);
    }

    private static void form(String text, int position, int cause) {
        SandWorkers x = Due.players(1);
        Due.type(x, text);
        Due.is("P25 position of " + text, x.fault(0), position);
        Due.is("P25 reason of " + text, x.fault(1), 1);
        Due.is("P25 cause of " + text, x.fault(2), cause);
    }

    private static void faultOfForm() {
        form("x", 0, 0);
        form(" s1;", 0, 0);
        form(";", 0, 0);
        form("1;", 0, 0);
        form("S1;", 0, 0);
        form("s", 0, 1);
        form("s;", 0, 1);
        form("s,", 0, 1);
        form("s-1;", 0, 1);
        form("s1", 0, 2);
        form("s1,", 0, 2);
        form("s 1;", 0, 1);
        form("s123", 0, 4);
        form("s1234;", 0, 4);
        form("s0001;", 0, 4);
        form("s1;;", 3, 0);
        form("s1; s1;", 3, 0);
        form("s1;s1;t", 6, 1);
        form("t1", 0, 2);
        form("t1;", 0, 2);
        form("t1,2,3;", 0, 6);
        form("t1,2,3,4,", 0, 8);
        form("t1,2,3,4", 0, 8);
        form("t001,002,0003,0;", 0, 12);
        form("w0,0;", 0, 4);
        form("w0,0,0,", 0, 6);
        form("w0,,0;", 0, 3);
        form("h0;", 0, 2);
        form("h0,0,", 0, 4);
        form("c1;", 0, 2);
        form("c1,/;", 0, 3);
        form("c1,:;", 0, 3);
        form("b0,0", 0, 4);
        form("b0.0;", 0, 2);
    }

    private static void call(String text, int position, int cause) {
        SandWorkers x = Due.players(1);
        Due.type(x, text);
        Due.is("P25 position of " + text, x.fault(0), position);
        Due.is("P25 reason of " + text, x.fault(1), 2);
        Due.is("P25 cause of " + text, x.fault(2), cause);
    }

    private static void faultOfCalls() {
        call("s0;", 0, Due.INVALID);
        call("s601;", 0, Due.INVALID);
        call("s600;s999;x", 5, Due.INVALID);
        call("t4,0,0,0;", 0, Due.INVALID);
        call("t1,0,0,3;", 0, Due.INVALID);
        call("w1,0,0;", 0, Due.INVALID);
        call("w0,0,0;", 0, Due.INVALID);
        call("t1,600,0,0;w0,0,0;", 11, Due.IMPOSSIBLE);
        call("t1,0,0,0;w0,0,0;w0,0,0;", 16, Due.IMPOSSIBLE);
        call("t1,0,0,0;w0,0,0;s29;w0,0,0;", 20, Due.IMPOSSIBLE);
        call("h0,0;", 0, Due.IMPOSSIBLE);
        call("h0,3;", 0, Due.INVALID);
        call("c0,0;", 0, Due.INVALID);
        call("c0,1;c0,1;c0,1;c0,1;c0,1;c0,1;c0,1;", 30, Due.LIMIT);
        call("b0,0;", 0, Due.INVALID);
        call("c600,1;b0,0;", 7, Due.IMPOSSIBLE);
        call("c0,1;b0,0;b0,0;", 10, Due.INVALID);
        SandWorkers x = new SandWorkers();
        for (int i = 0; i < 16; i++) {
            x.pass(600);
        }
        Due.type(x, "s399;s1;");
        Due.is("P25 position of what is too late", x.fault(0), 5);
        Due.is("P25 cause of what is too late", x.fault(2), Due.LIMIT);
        SandWorkers y = new SandWorkers();
        for (int i = 0; i < 8; i++) {
            y.task(1, 0, 0, 0);
        }
        Due.type(y, "t1,0,0,0;");
        Due.is("P25 a ninth task", y.fault(2), Due.LIMIT);
    }

    private static void faultRefuses() {
        SandWorkers x = new SandWorkers();
        Due.type(x, "x");
        for (int far : FAR) {
            Due.is("P25 what " + far, x.fault(far), Due.INVALID);
        }
        Due.is("P25 what 3", x.fault(3), Due.INVALID);
        x.clearText();
        for (int what = 0; what < 3; what++) {
            Due.is("P25 empty text", x.fault(what), Due.MISSING);
        }
        Due.type(x, "t1,000,999,2;c0,1;s001;");
        for (int what = 0; what < 3; what++) {
            Due.is("P25 no fault", x.fault(what), Due.MISSING);
        }
    }

    private static void faultChangesNothing() {
        SandWorkers x = Due.players(1);
        Due.type(x, "t1,0,0,0;c0,1;w0,0,0;b0,0;s5;x");
        Due.is("P25 position", x.fault(0), 29);
        Due.is("P25 no tasks", x.count(1), 0);
        Due.is("P25 no seconds", x.count(3), 0);
        Due.is("P25 no points", x.playerOf(0, 3), 0);
        Due.is("P25 states", x.count(8), 1);
        Due.is("P25 length", x.count(9), 30);
        Due.is("P25 the same again", x.fault(0), 29);
    }

    private static void playDoesAll() {
        SandWorkers x = Due.players(2);
        Due.type(x, "t2,100,30,2;w1,0,0;s30;h1,0;c222,13;b1,0;s007;");
        Due.is("P26 play", x.play(), 7);
        Due.is("P26 tasks", x.count(1), 1);
        Due.is("P26 paid", x.playerOf(1, 0), 2);
        Due.is("P26 gained and paid", x.playerOf(1, 1), 6);
        Due.is("P26 points", x.playerOf(1, 3), 14);
        Due.is("P26 at home", x.workerOf(1, 0, 1), Due.MISSING);
        Due.is("P26 seconds", x.count(3), 37);
        Due.is("P26 contracts", x.count(2), 0);
        Due.is("P26 the text stays", x.count(9), 46);
        SandWorkers y = Due.players(2);
        Due.type(y, "t1,0,0,0;t3,0,0,0;c1,2;c3,4;b1,1;w1,2,1;");
        Due.is("P26 numbers above 0", y.play(), 6);
        Due.is("P26 put on the task 1", y.on(1, 0), 12);
        Due.is("P26 the contract 1 is bought", y.playerOf(1, 3), 4);
        Due.is("P26 the contract 0 is left", y.contractOf(0, 0), 1);
    }

    private static void playIsOneChange() {
        SandWorkers x = new SandWorkers();
        Due.is("P26 empty text", x.play(), 0);
        Due.is("P26 a change all the same", x.count(8), 1);
        Due.type(x, "s1;s2;s3;");
        Due.is("P26 play", x.play(), 3);
        Due.is("P26 again", x.play(), 3);
        Due.is("P26 states", x.count(8), 3);
        Due.is("P26 seconds", x.count(3), 12);
        Due.is("P26 undo", x.undo(), 2);
        Due.is("P26 all of it undone", x.count(3), 6);
        Due.is("P26 the text stays", x.count(9), 9);
    }

    private static void playRefuses() {
        SandWorkers x = Due.players(1);
        Due.type(x, "s1;s2;s0;");
        Due.is("P26 fault of a call", x.play(), Due.IMPOSSIBLE);
        x.clearText();
        Due.type(x, "s1;s2;s3");
        Due.is("P26 fault of form", x.play(), Due.IMPOSSIBLE);
        Due.is("P26 nothing changed", x.count(3), 0);
        Due.is("P26 states", x.count(8), 1);
        x.type(';');
        Due.is("P26 mended", x.play(), 3);
    }
}
