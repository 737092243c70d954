/** Promise 7: home. */
public final class P07HomeTest {
    private P07HomeTest() {
    }

    public static void main(String[] args) {
        tellsTheTask();
        itIsAtHomeThen();
        refusedWhileSandIsAbove();
        possibleOnceItsSandIsOut();
        refusedAtHome();
        othersStay();
        atHomeNoSandRuns();
        noSuchPlayer();
        noSuchWorker();
        Due.end();
    }

    /** Worker 00 runs with a second above, 01 with all sand above, 10 is out on a task. */
    private static SandWorkers game() {
        SandWorkers x = Due.players(2);
        x.task(3, 0, 0, 0);
        x.put(1, 0, 0);
        x.pass(1);
        x.put(0, 0, 0);
        x.pass(29);
        x.put(0, 1, 0);
        return x;
    }

    /** "Returns the task on which it was": the first and the last number. */
    private static void tellsTheTask() {
        for (int task = 0; task < 8; task++) {
            SandWorkers x = Due.players(1);
            for (int i = 0; i < 8; i++) {
                x.task(1, 0, 0, 0);
            }
            x.put(0, 2, task);
            x.pass(90);
            Due.is("P7 home from the task " + task, x.home(0, 2), task);
        }
    }

    private static void itIsAtHomeThen() {
        SandWorkers x = game();
        Due.is("P7 home", x.home(1, 0), 0);
        Due.is("P7 on no task", x.workerOf(1, 0, 1), Due.MISSING);
        Due.is("P7 its place is left", x.taskOf(0, 4), 1);
        Due.is("P7 the next is first there", x.on(0, 0), 0);
        Due.is("P7 its works stay", x.workerOf(1, 0, 3), 1);
        Due.is("P7 those of the task stay", x.taskOf(0, 5), 1);
        Due.is("P7 its size stays", x.workerOf(1, 0, 0), 30);
    }

    /** "NOT_POSSIBLE if its sand is not out". */
    private static void refusedWhileSandIsAbove() {
        Due.refused("P7 a second above", P07HomeTest::game, x -> x.home(0, 0), Due.IMPOSSIBLE);
        Due.refused("P7 all sand above", P07HomeTest::game, x -> x.home(0, 1), Due.IMPOSSIBLE);
    }

    private static void possibleOnceItsSandIsOut() {
        SandWorkers x = game();
        // The last second of 00.
        x.pass(1);
        Due.is("P7 out at this second", x.home(0, 0), 0);
        Due.is("P7 the other runs on", x.home(0, 1), Due.IMPOSSIBLE);
    }

    /** "NOT_POSSIBLE if .. it is at home". */
    private static void refusedAtHome() {
        Due.refused("P7 never put", P07HomeTest::game, x -> x.home(1, 2), Due.IMPOSSIBLE);
        Due.refused("P7 home already", () -> {
            SandWorkers x = game();
            x.home(1, 0);
            return x;
        }, x -> x.home(1, 0), Due.IMPOSSIBLE);
    }

    private static void othersStay() {
        SandWorkers x = Due.players(2);
        x.task(3, 0, 0, 0);
        x.put(0, 0, 0);
        x.put(1, 0, 0);
        x.put(0, 1, 0);
        x.pass(60);
        x.home(0, 0);
        Due.is("P7 the other of the player", x.workerOf(0, 1, 1), 0);
        Due.is("P7 the other player's", x.workerOf(1, 0, 1), 0);
        Due.is("P7 one place is left", x.taskOf(0, 4), 1);
    }

    /** "at home it has none". */
    private static void atHomeNoSandRuns() {
        SandWorkers x = game();
        x.home(1, 0);
        Due.is("P7 no sand", x.workerOf(1, 0, 2), 0);
        x.pass(600);
        Due.is("P7 no work", x.workerOf(1, 0, 3), 1);
        Due.is("P7 no sand ever", x.workerOf(1, 0, 2), 0);
        Due.is("P7 no flip", x.flip(1, 0), Due.IMPOSSIBLE);
    }

    private static void noSuchPlayer() {
        for (int player : Due.outside(0, 1)) {
            Due.refused("P7 player " + player, P07HomeTest::game, x -> x.home(player, 0), Due.INVALID);
        }
    }

    private static void noSuchWorker() {
        for (int worker : Due.outside(0, 2)) {
            Due.refused("P7 worker " + worker, P07HomeTest::game, x -> x.home(1, worker), Due.INVALID);
        }
    }
}
