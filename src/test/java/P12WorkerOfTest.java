/** Promise 12: workerOf. */
public final class P12WorkerOfTest {
    private P12WorkerOfTest() {
    }

    public static void main(String[] args) {
        tellsEach();
        noSuchPlayer();
        noSuchWorker();
        noSuchWhat();
        taskNotFoundAtHome();
        theTaskZeroIsFound();
        invalidRatherThanNotFound();
        sandFromNoneToItsSize();
        worksGoUp();
        flipsByEffectAndByHand();
        Due.end();
    }

    private static SandWorkers game() {
        SandWorkers x = Due.players(2);
        x.task(1, 0, 0, 0);
        x.task(3, 0, 0, 1);
        x.size(1, 1, 77);
        x.pass(3);
        x.put(1, 1, 1);
        x.pass(7);
        x.put(0, 0, 1);
        x.flip(0, 0);
        return x;
    }

    private static void tellsEach() {
        SandWorkers x = game();
        int[] runs = {77, 1, 7, 0, 3, 1};
        int[] out = {30, 1, 0, 1, 10, 1};
        int[] home = {90, Due.MISSING, 0, 0, 10, 0};
        for (int what = 0; what < 6; what++) {
            Due.is("P12 workerOf(1, 1, " + what + ")", x.workerOf(1, 1, what), runs[what]);
            Due.is("P12 workerOf(0, 0, " + what + ")", x.workerOf(0, 0, what), out[what]);
            Due.is("P12 workerOf(0, 2, " + what + ")", x.workerOf(0, 2, what), home[what]);
        }
    }

    /** "INVALID_ARGUMENT if an argument is out of range". */
    private static void noSuchPlayer() {
        for (int player : Due.outside(0, 1)) {
            for (int what = 0; what < 6; what++) {
                int which = what;
                Due.looks("P12 workerOf(" + player + ", 1, " + what + ")", P12WorkerOfTest::game,
                        x -> x.workerOf(player, 1, which), Due.INVALID);
            }
        }
    }

    private static void noSuchWorker() {
        for (int worker : Due.outside(0, 2)) {
            for (int what = 0; what < 6; what++) {
                int which = what;
                Due.looks("P12 workerOf(1, " + worker + ", " + what + ")", P12WorkerOfTest::game,
                        x -> x.workerOf(1, worker, which), Due.INVALID);
            }
        }
    }

    private static void noSuchWhat() {
        for (int what : Due.outside(0, 5)) {
            Due.looks("P12 what " + what, P12WorkerOfTest::game, x -> x.workerOf(1, 1, what), Due.INVALID);
        }
    }

    /** "NOT_FOUND for 1 if it is at home". */
    private static void taskNotFoundAtHome() {
        SandWorkers x = Due.players(1);
        x.task(1, 0, 0, 0);
        Due.is("P12 never put", x.workerOf(0, 0, 1), Due.MISSING);
        x.put(0, 0, 0);
        x.pass(30);
        Due.is("P12 out, but on a task", x.workerOf(0, 0, 1), 0);
        x.home(0, 0);
        Due.is("P12 taken home", x.workerOf(0, 0, 1), Due.MISSING);
    }

    private static void theTaskZeroIsFound() {
        SandWorkers x = Due.players(4);
        for (int i = 0; i < 8; i++) {
            x.task(1, 0, 0, 0);
        }
        x.put(0, 0, 0);
        x.put(3, 2, 7);
        Due.is("P12 the first task", x.workerOf(0, 0, 1), 0);
        Due.is("P12 the last task", x.workerOf(3, 2, 1), 7);
    }

    private static void invalidRatherThanNotFound() {
        SandWorkers x = Due.players(1);
        Due.is("P12 no player, no task", x.workerOf(1, 0, 1), Due.INVALID);
        Due.is("P12 no worker, no task", x.workerOf(0, 3, 1), Due.INVALID);
    }

    /** "sand above (0 to its size) or none". */
    private static void sandFromNoneToItsSize() {
        SandWorkers x = Due.players(1);
        x.task(1, 0, 0, 0);
        x.size(0, 1, 5);
        Due.is("P12 none at home", x.workerOf(0, 1, 2), 0);
        x.put(0, 1, 0);
        for (int second = 0; second <= 7; second++) {
            Due.is("P12 sand behind " + second, x.workerOf(0, 1, 2), Math.max(0, 5 - second));
            x.pass(1);
        }
        x.home(0, 1);
        Due.is("P12 none at home again", x.workerOf(0, 1, 2), 0);
    }

    /** "3: works done so far". */
    private static void worksGoUp() {
        SandWorkers x = Due.players(1);
        x.task(1, 0, 0, 0);
        x.task(1, 0, 0, 0);
        for (int i = 0; i < 4; i++) {
            Due.is("P12 works", x.workerOf(0, 0, 3), i);
            x.put(0, 0, i % 2);
            x.pass(30);
        }
        Due.is("P12 the other has none", x.workerOf(0, 1, 3), 0);
    }

    /** "5: how often it was flipped so far". */
    private static void flipsByEffectAndByHand() {
        SandWorkers x = Due.players(1);
        x.task(3, 0, 0, 1);
        x.put(0, 0, 0);
        x.put(0, 2, 0);
        x.pass(10);
        x.flip(0, 2);
        Due.is("P12 by hand", x.workerOf(0, 2, 5), 1);
        // 02 has 10 above and ends 10 seconds later, which flips 00; 00 runs 20 of 30 then.
        x.pass(10);
        Due.is("P12 by the effect", x.workerOf(0, 0, 5), 1);
        Due.is("P12 its own effect does not flip it", x.workerOf(0, 2, 5), 1);
    }
}
