/** Promises 1 to 5: a new object, player, size, task, contract. */
public final class LayingTest {
    private static final int[] FAR = {Integer.MIN_VALUE, -1, Integer.MAX_VALUE};

    private LayingTest() {
    }

    public static void main(String[] args) {
        newObject();
        playerAddsUpToFour();
        playerStartsAsTold();
        sizeChanges();
        sizeRefuses();
        taskAddsUpToEight();
        taskRefuses();
        contractLaysUpToSix();
        contractRefuses();
        Due.end();
    }

    private static void newObject() {
        SandWorkers x = new SandWorkers();
        for (int what = 0; what < 10; what++) {
            Due.is("P1 count(" + what + ")", x.count(what), what == 6 ? Due.MISSING : 0);
        }
        Due.is("P1 playerOf", x.playerOf(0, 0), Due.INVALID);
        Due.is("P1 taskOf", x.taskOf(0, 0), Due.INVALID);
        Due.is("P1 contractOf", x.contractOf(0, 0), Due.INVALID);
        Due.is("P1 undo", x.undo(), Due.IMPOSSIBLE);
        Due.is("P1 next", x.next(0), Due.MISSING);
        Due.is("P1 pass without players", x.pass(600), 0);
        SandWorkers other = new SandWorkers();
        Due.is("P1 objects are apart", other.count(3), 0);
    }

    private static void playerAddsUpToFour() {
        SandWorkers x = new SandWorkers();
        for (int i = 0; i < 4; i++) {
            Due.is("P2 player", x.player(), i);
            Due.is("P2 players", x.count(0), i + 1);
        }
        Due.is("P2 fifth player", x.player(), Due.LIMIT);
        Due.is("P2 players stay 4", x.count(0), 4);
        Due.is("P2 no fifth", x.playerOf(4, 0), Due.INVALID);
        Due.is("P2 undo of the fourth", x.undo(), 3);
        Due.is("P2 player again", x.player(), 3);
    }

    private static void playerStartsAsTold() {
        SandWorkers x = Due.players(2);
        int[] due = {5, 5, 5, 0, 0, 3, 0, Due.MISSING};
        for (int what = 0; what < 8; what++) {
            Due.is("P2 playerOf(1, " + what + ")", x.playerOf(1, what), due[what]);
        }
        for (int worker = 0; worker < 3; worker++) {
            int[] first = {30 * worker + 30, Due.MISSING, 0, 0, 0, 0};
            for (int what = 0; what < 6; what++) {
                Due.is("P2 workerOf(1, " + worker + ", " + what + ")",
                        x.workerOf(1, worker, what), first[what]);
            }
        }
    }

    private static void sizeChanges() {
        SandWorkers x = Due.players(2);
        Due.is("P3 size(1, 2, 300)", x.size(1, 2, 300), 90);
        Due.is("P3 size(1, 2, 5)", x.size(1, 2, 5), 300);
        Due.is("P3 size is kept", x.workerOf(1, 2, 0), 5);
        Due.is("P3 others stay", x.workerOf(0, 2, 0), 90);
        Due.is("P3 size same", x.size(1, 2, 5), 5);
        x.task(1, 0, 0, 0);
        x.put(1, 2, 0);
        Due.is("P3 size while it runs", x.size(1, 2, 9), Due.IMPOSSIBLE);
        x.pass(5);
        Due.is("P3 size on a task, sand out", x.size(1, 2, 9), 5);
        Due.is("P3 sand stays out", x.workerOf(1, 2, 2), 0);
        x.put(1, 2, 0);
        Due.is("P3 new size counts", x.workerOf(1, 2, 2), 9);
    }

    private static void sizeRefuses() {
        SandWorkers x = Due.players(1);
        x.task(1, 0, 0, 0);
        x.put(0, 0, 0);
        int states = x.count(8);
        for (int far : FAR) {
            Due.is("P3 player " + far, x.size(far, 1, 30), Due.INVALID);
            Due.is("P3 worker " + far, x.size(0, far, 30), Due.INVALID);
            Due.is("P3 size " + far, x.size(0, 1, far), Due.INVALID);
        }
        Due.is("P3 player 1", x.size(1, 1, 30), Due.INVALID);
        Due.is("P3 worker 3", x.size(0, 3, 30), Due.INVALID);
        Due.is("P3 size 4", x.size(0, 1, 4), Due.INVALID);
        Due.is("P3 size 301", x.size(0, 1, 301), Due.INVALID);
        Due.is("P3 invalid rather than not possible", x.size(0, 0, 4), Due.INVALID);
        Due.is("P3 not possible", x.size(0, 0, 5), Due.IMPOSSIBLE);
        Due.is("P3 nothing changed", x.count(8), states);
        Due.is("P3 size as it was", x.workerOf(0, 0, 0), 30);
    }

    private static void taskAddsUpToEight() {
        SandWorkers x = new SandWorkers();
        Due.is("P4 least", x.task(1, 0, 0, 0), 0);
        Due.is("P4 most", x.task(3, 999, 999, 2), 1);
        for (int i = 2; i < 8; i++) {
            Due.is("P4 task", x.task(2, 123, 456, 1), i);
        }
        Due.is("P4 ninth", x.task(2, 123, 456, 1), Due.LIMIT);
        Due.is("P4 ninth, invalid", x.task(2, 123, 456, 3), Due.INVALID);
        Due.is("P4 tasks", x.count(1), 8);
        int[] most = {3, 999, 999, 2, 3, 0};
        int[] last = {2, 123, 456, 1, 2, 0};
        for (int what = 0; what < 6; what++) {
            Due.is("P4 taskOf(1, " + what + ")", x.taskOf(1, what), most[what]);
            Due.is("P4 taskOf(7, " + what + ")", x.taskOf(7, what), last[what]);
        }
    }

    private static void taskRefuses() {
        SandWorkers x = new SandWorkers();
        for (int far : FAR) {
            Due.is("P4 places " + far, x.task(far, 0, 0, 0), Due.INVALID);
            Due.is("P4 cost " + far, x.task(1, far, 0, 0), Due.INVALID);
            Due.is("P4 gain " + far, x.task(1, 0, far, 0), Due.INVALID);
            Due.is("P4 effect " + far, x.task(1, 0, 0, far), Due.INVALID);
        }
        Due.is("P4 places 0", x.task(0, 0, 0, 0), Due.INVALID);
        Due.is("P4 places 4", x.task(4, 0, 0, 0), Due.INVALID);
        Due.is("P4 cost 1000", x.task(1, 1000, 0, 0), Due.INVALID);
        Due.is("P4 gain 1000", x.task(1, 0, 1000, 0), Due.INVALID);
        Due.is("P4 effect 3", x.task(1, 0, 0, 3), Due.INVALID);
        Due.is("P4 no tasks", x.count(1), 0);
        Due.is("P4 no states", x.count(8), 0);
    }

    private static void contractLaysUpToSix() {
        SandWorkers x = new SandWorkers();
        Due.is("P5 least", x.contract(0, 1), 0);
        Due.is("P5 most", x.contract(999, 20), 1);
        for (int i = 2; i < 6; i++) {
            Due.is("P5 contract", x.contract(100 + i, i), i);
        }
        Due.is("P5 seventh", x.contract(0, 1), Due.LIMIT);
        Due.is("P5 seventh, invalid", x.contract(0, 0), Due.INVALID);
        Due.is("P5 contracts", x.count(2), 6);
        Due.is("P5 price", x.contractOf(1, 0), 999);
        Due.is("P5 points", x.contractOf(1, 1), 20);
        Due.is("P5 last price", x.contractOf(5, 0), 105);
        x.player();
        x.buy(0, 0);
        Due.is("P5 a place again", x.contract(7, 8), 5);
        Due.is("P5 it is the last", x.contractOf(5, 0), 7);
        Due.is("P5 those ahead moved up", x.contractOf(4, 0), 105);
    }

    private static void contractRefuses() {
        SandWorkers x = new SandWorkers();
        for (int far : FAR) {
            Due.is("P5 price " + far, x.contract(far, 1), Due.INVALID);
            Due.is("P5 points " + far, x.contract(0, far), Due.INVALID);
        }
        Due.is("P5 price 1000", x.contract(1000, 1), Due.INVALID);
        Due.is("P5 points 0", x.contract(0, 0), Due.INVALID);
        Due.is("P5 points 21", x.contract(0, 21), Due.INVALID);
        Due.is("P5 no contracts", x.count(2), 0);
        Due.is("P5 no states", x.count(8), 0);
    }
}
