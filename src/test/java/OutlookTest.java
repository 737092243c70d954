/** Promises 16 to 22: next, would, best, earns, busy, count, undo. */
public final class OutlookTest {
    private static final int[] FAR = {Integer.MIN_VALUE, -1, Integer.MAX_VALUE};

    private OutlookTest() {
    }

    public static void main(String[] args) {
        nextTells();
        wouldTells();
        wouldRefuses();
        bestFinds();
        bestRefuses();
        earnsAtOnceAndLater();
        earnsPutsTheLowestFirst();
        earnsWaitsForTasksAndOthers();
        earnsRefuses();
        busyTellsFloats();
        busyRefuses();
        countTells();
        countTellsWhoIsAhead();
        undoRestores();
        undoKeepsFour();
        looksLeaveNothingBehind();
        Due.end();
    }

    private static void nextTells() {
        SandWorkers x = Due.players(3);
        Due.is("P16 none", x.next(0), Due.MISSING);
        Due.is("P16 none, when", x.next(1), Due.MISSING);
        x.task(3, 0, 0, 0);
        x.put(2, 1, 0);
        Due.is("P16 the one there is", x.next(0), 21);
        x.put(1, 1, 0);
        Due.is("P16 the lowest of several", x.next(0), 11);
        Due.is("P16 when", x.next(1), 60);
        x.pass(1);
        x.put(2, 2, 0);
        Due.is("P16 later ones do not count", x.next(0), 11);
        Due.is("P16 a second less", x.next(1), 59);
        for (int far : FAR) {
            Due.is("P16 what " + far, x.next(far), Due.INVALID);
        }
        Due.is("P16 what 2", x.next(2), Due.INVALID);
        Due.is("P16 invalid rather than not found", new SandWorkers().next(2), Due.INVALID);
    }

    private static void wouldTells() {
        SandWorkers x = Due.players(2);
        x.task(3, 0, 123, 2);
        x.task(3, 0, 0, 1);
        x.put(0, 0, 0);
        x.put(0, 2, 0);
        x.put(1, 1, 1);
        Due.is("P17 at once", x.would(0, 0, 4), 0);
        Due.is("P17 at once, goods", x.would(0, 0, 0), 5);
        Due.is("P17 before", x.would(0, 29, 4), 0);
        Due.is("P17 one work", x.would(0, 30, 4), 1);
        Due.is("P17 good 0", x.would(0, 30, 0), 6);
        Due.is("P17 good 1", x.would(0, 30, 1), 7);
        Due.is("P17 good 2", x.would(0, 30, 2), 8);
        Due.is("P17 points", x.would(0, 30, 3), 1);
        // 02 has 30 above when it is flipped at 60: it is out at 120.
        Due.is("P17 before the flipped one", x.would(0, 119, 4), 1);
        Due.is("P17 with the flipped one", x.would(0, 120, 4), 2);
        Due.is("P17 at 600", x.would(0, 600, 3), 2);
        Due.is("P17 the other", x.would(1, 600, 4), 1);
        x.pass(30);
        Due.is("P17 works in these seconds alone", x.would(0, 90, 4), 1);
        Due.is("P17 nothing passes", x.count(3), 30);
    }

    private static void wouldRefuses() {
        SandWorkers x = Due.players(1);
        for (int far : FAR) {
            Due.is("P17 player " + far, x.would(far, 0, 0), Due.INVALID);
            Due.is("P17 seconds " + far, x.would(0, far, 0), Due.INVALID);
            Due.is("P17 what " + far, x.would(0, 0, far), Due.INVALID);
        }
        Due.is("P17 player 1", x.would(1, 0, 0), Due.INVALID);
        Due.is("P17 seconds 601", x.would(0, 601, 0), Due.INVALID);
        Due.is("P17 what 5", x.would(0, 0, 5), Due.INVALID);
    }

    private static void bestFinds() {
        SandWorkers x = Due.players(2);
        x.task(1, 999, 0, 0);
        x.task(1, 555, 0, 0);
        Due.is("P18 a loss", x.best(0, 0, 0), 1);
        Due.is("P18 difference below 100", x.best(0, 0, 1), 85);
        x.task(1, 0, 900, 0);
        x.task(2, 9, 999, 0);
        x.task(1, 1, 118, 0);
        Due.is("P18 the lowest of several", x.best(0, 0, 0), 2);
        Due.is("P18 nine", x.best(0, 0, 1), 109);
        x.put(0, 0, 2);
        Due.is("P18 no place there", x.best(0, 1, 0), 4);
        x.pass(30);
        Due.is("P18 its own place counts", x.best(0, 0, 0), 2);
        Due.is("P18 not for the other", x.best(1, 0, 0), 4);
        Due.is("P18 asking puts nobody", x.taskOf(4, 4), 1);
        SandWorkers y = Due.players(1);
        y.task(1, 0, 0, 0);
        Due.is("P18 the first task", y.best(0, 0, 0), 0);
        Due.is("P18 difference 0", y.best(0, 0, 1), 100);
    }

    private static void bestRefuses() {
        SandWorkers x = Due.players(1);
        Due.is("P18 no tasks", x.best(0, 0, 0), Due.MISSING);
        x.task(2, 500, 0, 0);
        x.put(0, 0, 0);
        for (int far : FAR) {
            Due.is("P18 player " + far, x.best(far, 1, 0), Due.INVALID);
            Due.is("P18 worker " + far, x.best(0, far, 0), Due.INVALID);
            Due.is("P18 what " + far, x.best(0, 1, far), Due.INVALID);
        }
        Due.is("P18 player 1", x.best(1, 1, 0), Due.INVALID);
        Due.is("P18 worker 3", x.best(0, 3, 0), Due.INVALID);
        Due.is("P18 what 2", x.best(0, 0, 2), Due.INVALID);
        Due.is("P18 not possible rather than not found", x.best(0, 0, 0), Due.IMPOSSIBLE);
        Due.is("P18 none it can pay", x.best(0, 1, 1), Due.MISSING);
    }

    private static void earnsAtOnceAndLater() {
        SandWorkers x = Due.players(1);
        x.task(3, 0, 100, 0);
        x.contract(555, 1);
        x.contract(600, 1);
        x.contract(900, 1);
        x.contract(6, 1);
        Due.is("P19 at once", x.earns(0, 0, 0), 0);
        Due.is("P19 one work", x.earns(0, 1, 0), 30);
        // 00 at 30, then 00 and 01 at 60, and 00 and 02 at 90: 4 are there at 90.
        Due.is("P19 four works", x.earns(0, 2, 0), 90);
        Due.is("P19 never", x.earns(0, 3, 0), Due.MISSING);
        Due.is("P19 asking puts nobody", x.taskOf(0, 4), 3);
        x.size(0, 0, 300);
        x.size(0, 1, 300);
        x.size(0, 2, 300);
        x.contract(999, 1);
        x.task(1, 0, 200, 0);
        Due.is("P19 at 600", x.earns(0, 4, 1), Due.MISSING);
        Due.is("P19 two in 600", x.earns(0, 2, 1), 600);
        x.size(0, 0, 299);
        Due.is("P19 two in 598", x.earns(0, 2, 1), 598);
        x.put(0, 0, 1);
        x.pass(298);
        x.contract(700, 1);
        Due.is("P19 a second before its end", x.earns(0, 5, 1), 1);
    }

    /** A cost is paid before more is gained, so that one work at a time can be paid. */
    private static void earnsPutsTheLowestFirst() {
        SandWorkers x = Due.players(1);
        x.task(3, 300, 600, 0);
        x.contract(900, 1);
        x.size(0, 0, 100);
        x.size(0, 1, 7);
        // 5: only 00 is put (2 left). At 100: 8, so 00 and 01 are put (2); at 107: 8, 01 again
        // (5) and 02 (2). At 114: 8 again, 01 (5); at 121: 11.
        Due.is("P19 the lowest first", x.earns(0, 0, 0), 121);
        SandWorkers y = Due.players(1);
        y.task(1, 0, 100, 0);
        y.contract(700, 1);
        y.size(0, 0, 50);
        y.size(0, 1, 10);
        Due.is("P19 one place, held by the lowest", y.earns(0, 0, 0), 100);
    }

    private static void earnsWaitsForTasksAndOthers() {
        SandWorkers x = Due.players(2);
        x.task(1, 0, 100, 0);
        x.task(3, 0, 10, 0);
        x.contract(600, 1);
        x.put(1, 0, 0);
        Due.is("P19 a place that another holds", x.earns(0, 0, 0), Due.MISSING);
        x.contract(60, 1);
        x.put(0, 0, 1);
        x.pass(10);
        Due.is("P19 it goes on with its task first", x.earns(0, 1, 0), 20);
        x.task(1, 0, 1, 1);
        x.contract(7, 1);
        // 11 ends at 60 and flips 01 (40 above then, if its size is 100) to 60: out at 120.
        x.size(0, 1, 100);
        x.put(1, 1, 2);
        x.contract(70, 1);
        x.put(0, 1, 1);
        Due.is("P19 flips of others", x.earns(0, 3, 0), 120);
        x.size(0, 2, 300);
        Due.is("P19 the place of its own", x.earns(0, 2, 2), Due.MISSING);
    }

    private static void earnsRefuses() {
        SandWorkers x = Due.players(1);
        x.task(1, 0, 0, 0);
        x.contract(0, 1);
        for (int far : FAR) {
            Due.is("P19 player " + far, x.earns(far, 0, 0), Due.INVALID);
            Due.is("P19 contract " + far, x.earns(0, far, 0), Due.INVALID);
            Due.is("P19 task " + far, x.earns(0, 0, far), Due.INVALID);
        }
        Due.is("P19 player 1", x.earns(1, 0, 0), Due.INVALID);
        Due.is("P19 contract 1", x.earns(0, 1, 0), Due.INVALID);
        Due.is("P19 task 1", x.earns(0, 0, 1), Due.INVALID);
    }

    private static void busyTellsFloats() {
        SandWorkers x = Due.players(1);
        x.task(3, 0, 0, 0);
        x.put(0, 2, 0);
        x.pass(1);
        Due.is("P20 always", x.busy(0, 2), Float.floatToIntBits(1f));
        Due.is("P20 never", x.busy(0, 0), 0);
        x.put(0, 0, 0);
        x.pass(2);
        Due.is("P20 2 of 3", x.busy(0, 0), Float.floatToIntBits(2f / 3f));
        x.player();
        x.pass(4);
        Due.is("P20 one that came later", x.busy(1, 0), Float.floatToIntBits(3f / 7f));
        SandWorkers y = Due.players(1);
        y.task(1, 0, 0, 0);
        y.size(0, 0, 5);
        y.put(0, 0, 0);
        // An object is used for at most 512 calls.
        for (int seconds = 5; seconds <= 9995; seconds += 45) {
            y.pass(seconds == 5 ? 5 : 45);
            Due.is("P20 5 of " + seconds, y.busy(0, 0), Float.floatToIntBits(5f / seconds));
        }
    }

    private static void busyRefuses() {
        SandWorkers x = Due.players(1);
        Due.is("P20 no second", x.busy(0, 0), Due.MISSING);
        Due.is("P20 invalid rather than not found", x.busy(0, 3), Due.INVALID);
        x.pass(1);
        for (int far : FAR) {
            Due.is("P20 player " + far, x.busy(far, 0), Due.INVALID);
            Due.is("P20 worker " + far, x.busy(0, far), Due.INVALID);
        }
        Due.is("P20 player 1", x.busy(1, 0), Due.INVALID);
        Due.is("P20 worker 3", x.busy(0, 3), Due.INVALID);
    }

    private static void countTells() {
        SandWorkers x = Due.players(3);
        x.task(3, 0, 900, 1);
        x.task(3, 0, 9, 1);
        x.contract(1, 1);
        x.put(0, 0, 0);
        x.put(0, 1, 0);
        x.pass(30);
        Due.type(x, "s1;");
        int[] due = {3, 2, 1, 30, 1, 1, 0, 0, 4, 3};
        for (int what = 0; what < 10; what++) {
            Due.is("P21 count(" + what + ")", x.count(what), due[what]);
        }
        for (int far : FAR) {
            Due.is("P21 what " + far, x.count(far), Due.INVALID);
        }
        Due.is("P21 what 10", x.count(10), Due.INVALID);
        for (int i = 0; i < 12; i++) {
            x.put(2, 0, 1);
            x.flip(2, 0);
        }
        Due.is("P21 lost", x.count(7), 5 + 12 * 9 - 99);
        Due.is("P21 flips by hand and by effect", x.count(5), 1 + 12 + 12);
        Due.is("P21 works", x.count(4), 13);
    }

    private static void countTellsWhoIsAhead() {
        SandWorkers x = new SandWorkers();
        Due.is("P21 nobody", x.count(6), Due.MISSING);
        x.player();
        x.player();
        x.player();
        Due.is("P21 the lowest", x.count(6), 0);
        x.task(3, 0, 1, 0);
        x.put(1, 0, 0);
        x.flip(1, 0);
        Due.is("P21 most goods", x.count(6), 1);
        x.put(0, 0, 0);
        x.flip(0, 0);
        Due.is("P21 the lowest of the same", x.count(6), 0);
        x.contract(555, 1);
        x.buy(2, 0);
        Due.is("P21 most points", x.count(6), 2);
        x.contract(0, 1);
        x.buy(1, 0);
        Due.is("P21 most goods of most points", x.count(6), 1);
        for (int price = 1; price <= 100; price *= 10) {
            SandWorkers y = Due.players(2);
            y.contract(price, 1);
            y.contract(0, 1);
            y.buy(0, 0);
            y.buy(1, 0);
            Due.is("P21 each good counts", y.count(6), 1);
        }
        SandWorkers alone = Due.players(1);
        alone.task(1, 1, 0, 0);
        alone.put(0, 0, 0);
        Due.is("P21 alone with few goods", alone.count(6), 0);
    }

    private static void undoRestores() {
        SandWorkers x = new SandWorkers();
        Due.is("P22 empty", x.undo(), Due.IMPOSSIBLE);
        x.player();
        Due.is("P22 undo of player", x.undo(), 0);
        Due.is("P22 no player", x.count(0), 0);
        x.player();
        x.task(2, 100, 900, 1);
        x.contract(1, 2);
        x.size(0, 0, 33);
        x.put(0, 0, 0);
        x.put(0, 1, 0);
        x.pass(33);
        Due.type(x, "s5;");
        Due.is("P22 undo of pass", x.undo(), 3);
        Due.is("P22 the text stays", x.count(9), 3);
        Due.is("P22 seconds", x.count(3), 0);
        Due.is("P22 sand", x.workerOf(0, 0, 2), 33);
        Due.is("P22 sand of the other", x.workerOf(0, 1, 2), 60);
        Due.is("P22 works", x.workerOf(0, 0, 3), 0);
        Due.is("P22 works of the task", x.taskOf(0, 5), 0);
        Due.is("P22 flips", x.count(5), 0);
        Due.is("P22 goods", x.playerOf(0, 0), 3);
        Due.is("P22 waiting", x.workerOf(0, 2, 4), 0);
        Due.is("P22 undo of put", x.undo(), 2);
        Due.is("P22 at home", x.workerOf(0, 1, 1), Due.MISSING);
        Due.is("P22 what was paid", x.playerOf(0, 0), 4);
        x.buy(0, 0);
        Due.is("P22 undo of buy", x.undo(), 2);
        Due.is("P22 the contract", x.count(2), 1);
        Due.is("P22 points", x.playerOf(0, 3), 0);
    }

    /** What looks ahead runs on something else than the game, and each change starts from the game. */
    private static void looksLeaveNothingBehind() {
        for (int change = 0; change < 10; change++) {
            SandWorkers x = Due.players(2);
            x.task(3, 0, 111, 2);
            x.contract(0, 1);
            x.put(0, 0, 0);
            x.pass(30);
            x.put(0, 1, 0);
            Due.type(x, "c1,1;");
            Due.is("P17 look", x.would(0, 600, 3), 2);
            Due.isTrue("P22 change " + change, change(x, change) >= 0);
            Due.is("P17 seconds behind change " + change, x.count(3), change == 8 ? 31 : 30);
            Due.is("P17 goods behind change " + change, x.playerOf(0, 0), change == 6 ? 7 : 6);
        }
        for (int what = 0; what < 3; what++) {
            SandWorkers x = Due.players(1);
            x.task(1, 0, 0, 0);
            x.contract(0, 1);
            x.put(0, 0, 0);
            Due.type(x, "b0,0;");
            x.pass(1);
            x.earns(0, 0, 0);
            Due.is("P25 no fault", x.fault(what), Due.MISSING);
            Due.is("P25 nor then", x.fault(what), Due.MISSING);
            Due.is("P11 look", x.playerOf(0, 7), 29);
            Due.is("P11 look again", x.playerOf(0, 7), 29);
            Due.is("P19 look", x.earns(0, 0, 0), 0);
            Due.is("P17 look again", x.would(0, 29, 4), 1);
        }
    }

    private static int change(SandWorkers x, int which) {
        switch (which) {
            case 0:
                return x.player();
            case 1:
                return x.size(1, 0, 7);
            case 2:
                return x.task(1, 0, 0, 0);
            case 3:
                return x.contract(5, 5);
            case 4:
                return x.put(1, 0, 0);
            case 5:
                return x.home(0, 0);
            case 6:
                return x.flip(0, 1);
            case 7:
                return x.buy(0, 0);
            case 8:
                return x.pass(1);
            default:
                return x.play();
        }
    }

    private static void undoKeepsFour() {
        SandWorkers x = Due.players(1);
        for (int i = 1; i <= 6; i++) {
            x.pass(i);
            Due.is("P22 states", x.count(8), Math.min(4, i + 1));
        }
        x.pass(0);
        x.next(0);
        Due.is("P22 errors are not recorded", x.count(8), 4);
        int[] seconds = {15, 10, 6, 3};
        for (int i = 0; i < 4; i++) {
            Due.is("P22 left", x.undo(), 3 - i);
            Due.is("P22 seconds", x.count(3), seconds[i]);
        }
        Due.is("P22 empty again", x.undo(), Due.IMPOSSIBLE);
        Due.is("P22 nothing changed", x.count(3), 3);
    }
}
