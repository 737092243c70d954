/** Promises 11 to 15: playerOf, workerOf, taskOf, on, contractOf. */
public final class ViewsTest {
    private static final int[] FAR = {Integer.MIN_VALUE, -1, Integer.MAX_VALUE};

    private ViewsTest() {
    }

    public static void main(String[] args) {
        playerOfTells();
        playerOfLooksThroughFlips();
        playerOfRefuses();
        workerOfTells();
        workerOfRefuses();
        taskOfTells();
        taskOfRefuses();
        onTellsTheOrder();
        onRefuses();
        contractOfTells();
        contractOfRefuses();
        Due.end();
    }

    private static void playerOfTells() {
        SandWorkers x = Due.players(2);
        x.task(3, 12, 340, 2);
        x.put(0, 0, 0);
        x.put(0, 1, 0);
        x.put(1, 0, 0);
        x.pass(45);
        int[] due = {8, 7, 1, 1, 1, 2, 60, 15};
        for (int what = 0; what < 8; what++) {
            Due.is("P11 playerOf(0, " + what + ")", x.playerOf(0, what), due[what]);
        }
        int[] other = {8, 8, 3, 1, 1, 3, 105, Due.MISSING};
        for (int what = 0; what < 8; what++) {
            Due.is("P11 playerOf(1, " + what + ")", x.playerOf(1, what), other[what]);
        }
    }

    private static void playerOfLooksThroughFlips() {
        SandWorkers x = Due.players(2);
        x.task(3, 0, 0, 1);
        x.task(3, 0, 0, 0);
        x.put(0, 2, 1);
        x.pass(1);
        x.put(1, 0, 0);
        // After 30 seconds 02 has 59 above; it is flipped to 31, and is out 31 seconds later.
        Due.is("P11 by a flip of another", x.playerOf(0, 7), 61);
        Due.is("P11 the other itself", x.playerOf(1, 7), 30);
        Due.is("P11 asking changes nothing", x.count(3), 1);
        Due.is("P11 nor sand", x.workerOf(0, 2, 2), 89);
        x.size(0, 0, 300);
        x.put(0, 0, 1);
        // After 30 seconds 00 has 270 above; it is flipped to 30.
        Due.is("P11 the soonest of its own", x.playerOf(0, 7), 60);
        Due.is("P11 no state for it", x.count(8), 4);
    }

    private static void playerOfRefuses() {
        SandWorkers x = Due.players(1);
        for (int far : FAR) {
            Due.is("P11 player " + far, x.playerOf(far, 0), Due.INVALID);
            Due.is("P11 what " + far, x.playerOf(0, far), Due.INVALID);
        }
        Due.is("P11 player 1", x.playerOf(1, 0), Due.INVALID);
        Due.is("P11 what 8", x.playerOf(0, 8), Due.INVALID);
        Due.is("P11 invalid rather than not found", x.playerOf(1, 7), Due.INVALID);
        Due.is("P11 none has sand above", x.playerOf(0, 7), Due.MISSING);
    }

    private static void workerOfTells() {
        SandWorkers x = Due.players(2);
        x.task(1, 0, 0, 0);
        x.task(3, 0, 0, 1);
        x.size(1, 1, 77);
        x.pass(3);
        x.put(1, 1, 1);
        x.pass(7);
        x.put(0, 0, 1);
        x.flip(0, 0);
        int[] due = {77, 1, 7, 0, 3, 1};
        for (int what = 0; what < 6; what++) {
            Due.is("P12 workerOf(1, 1, " + what + ")", x.workerOf(1, 1, what), due[what]);
        }
        x.pass(7);
        Due.is("P12 works", x.workerOf(1, 1, 3), 1);
        x.pass(5);
        Due.is("P12 waiting on a task", x.workerOf(1, 1, 4), 8);
    }

    private static void workerOfRefuses() {
        SandWorkers x = Due.players(1);
        for (int far : FAR) {
            Due.is("P12 player " + far, x.workerOf(far, 0, 0), Due.INVALID);
            Due.is("P12 worker " + far, x.workerOf(0, far, 0), Due.INVALID);
            Due.is("P12 what " + far, x.workerOf(0, 0, far), Due.INVALID);
        }
        Due.is("P12 player 1", x.workerOf(1, 0, 0), Due.INVALID);
        Due.is("P12 worker 3", x.workerOf(0, 3, 0), Due.INVALID);
        Due.is("P12 what 6", x.workerOf(0, 0, 6), Due.INVALID);
        Due.is("P12 at home", x.workerOf(0, 0, 1), Due.MISSING);
    }

    private static void taskOfTells() {
        SandWorkers x = Due.players(2);
        x.task(1, 7, 8, 2);
        x.task(3, 123, 456, 1);
        x.put(0, 0, 1);
        x.put(1, 0, 1);
        x.pass(30);
        int[] due = {3, 123, 456, 1, 1, 2};
        for (int what = 0; what < 6; what++) {
            Due.is("P13 taskOf(1, " + what + ")", x.taskOf(1, what), due[what]);
        }
        x.home(0, 0);
        Due.is("P13 places left", x.taskOf(1, 4), 2);
        Due.is("P13 works stay", x.taskOf(1, 5), 2);
        Due.is("P13 no works on the other", x.taskOf(0, 5), 0);
    }

    private static void taskOfRefuses() {
        SandWorkers x = new SandWorkers();
        x.task(1, 0, 0, 0);
        for (int far : FAR) {
            Due.is("P13 task " + far, x.taskOf(far, 0), Due.INVALID);
            Due.is("P13 what " + far, x.taskOf(0, far), Due.INVALID);
        }
        Due.is("P13 task 1", x.taskOf(1, 0), Due.INVALID);
        Due.is("P13 what 6", x.taskOf(0, 6), Due.INVALID);
    }

    private static void onTellsTheOrder() {
        SandWorkers x = Due.players(4);
        x.task(3, 0, 0, 0);
        x.task(3, 0, 0, 0);
        x.put(3, 0, 0);
        x.put(2, 0, 0);
        x.put(0, 0, 1);
        x.put(0, 1, 0);
        Due.is("P14 first", x.on(0, 0), 30);
        Due.is("P14 second", x.on(0, 1), 20);
        Due.is("P14 third", x.on(0, 2), 1);
        Due.is("P14 no fourth", x.on(0, 3), Due.MISSING);
        x.pass(30);
        x.put(3, 0, 0);
        Due.is("P14 once more comes last", x.on(0, 2), 30);
        Due.is("P14 the others move up", x.on(0, 0), 20);
        x.home(2, 0);
        Due.is("P14 one goes home", x.on(0, 0), 1);
        Due.is("P14 two are there", x.on(0, 2), Due.MISSING);
        x.put(2, 0, 0);
        Due.is("P14 comes back last", x.on(0, 2), 20);
        x.undo();
        Due.is("P14 undo takes it off", x.on(0, 2), Due.MISSING);
        SandWorkers y = Due.players(1);
        y.task(3, 0, 0, 0);
        y.put(0, 0, 0);
        y.put(0, 2, 0);
        y.put(0, 1, 0);
        Due.is("P14 the worker 0 first", y.on(0, 0), 0);
        Due.is("P14 then the worker 2", y.on(0, 1), 2);
        Due.is("P14 then the worker 1", y.on(0, 2), 1);
    }

    private static void onRefuses() {
        SandWorkers x = new SandWorkers();
        x.task(1, 0, 0, 0);
        for (int far : FAR) {
            Due.is("P14 task " + far, x.on(far, 0), Due.INVALID);
        }
        Due.is("P14 task 1", x.on(1, 0), Due.INVALID);
        Due.is("P14 place -1", x.on(0, -1), Due.INVALID);
        Due.is("P14 least place", x.on(0, Integer.MIN_VALUE), Due.INVALID);
        Due.is("P14 place 0", x.on(0, 0), Due.MISSING);
        Due.is("P14 greatest place", x.on(0, Integer.MAX_VALUE), Due.MISSING);
    }

    private static void contractOfTells() {
        SandWorkers x = Due.players(4);
        x.contract(555, 4);
        x.contract(0, 20);
        x.contract(600, 1);
        x.contract(15, 2);
        Due.is("P15 price", x.contractOf(0, 0), 555);
        Due.is("P15 points", x.contractOf(0, 1), 4);
        Due.is("P15 all have it", x.contractOf(0, 2), 15);
        Due.is("P15 none has it", x.contractOf(2, 2), 0);
        x.buy(2, 3);
        Due.is("P15 without player 2", x.contractOf(0, 2), 11);
        Due.is("P15 price 0", x.contractOf(1, 2), 15);
        SandWorkers two = Due.players(2);
        two.contract(0, 1);
        Due.is("P15 only players that are there", two.contractOf(0, 2), 3);
    }

    private static void contractOfRefuses() {
        SandWorkers x = new SandWorkers();
        x.contract(0, 1);
        for (int far : FAR) {
            Due.is("P15 contract " + far, x.contractOf(far, 0), Due.INVALID);
            Due.is("P15 what " + far, x.contractOf(0, far), Due.INVALID);
        }
        Due.is("P15 contract 1", x.contractOf(1, 0), Due.INVALID);
        Due.is("P15 what 3", x.contractOf(0, 3), Due.INVALID);
        Due.is("P15 nobody there", x.contractOf(0, 2), 0);
    }
}
