/** Promise 3: size. */
public final class P03SizeTest {
    private P03SizeTest() {
    }

    public static void main(String[] args) {
        sizesFromFiveToThreeHundred();
        sizesOutside();
        noSuchPlayer();
        noSuchWorker();
        tellsWhatItWas();
        othersKeepTheirs();
        refusedWhileSandIsAbove();
        possibleOnceItsSandIsOut();
        theSandStaysOut();
        invalidRatherThanNotPossible();
        theSameSizeIsAChange();
        Due.end();
    }

    /** Worker 0 of the player 0 runs with a second above, its worker 1 has all sand above. */
    private static SandWorkers game() {
        SandWorkers x = Due.players(2);
        x.task(3, 0, 0, 0);
        x.put(0, 0, 0);
        x.pass(29);
        x.put(0, 1, 0);
        return x;
    }

    /** "size: 5 to 300". */
    private static void sizesFromFiveToThreeHundred() {
        SandWorkers x = Due.players(1);
        x.task(1, 0, 0, 0);
        Due.is("P3 size 5", x.size(0, 0, 5), 30);
        Due.is("P3 size 300", x.size(0, 0, 300), 5);
        x.put(0, 0, 0);
        Due.is("P3 sand of size 300", x.workerOf(0, 0, 2), 300);
        Due.is("P3 runs 300 seconds", x.pass(299), 0);
        Due.is("P3 and no longer", x.pass(1), 1);
        x.size(0, 0, 5);
        x.put(0, 0, 0);
        Due.is("P3 runs 5 seconds", x.pass(4), 0);
        Due.is("P3 and no longer than 5", x.pass(1), 1);
    }

    /** "INVALID_ARGUMENT if an argument is out of range". */
    private static void sizesOutside() {
        for (int size : Due.outside(5, 300)) {
            Due.refused("P3 size " + size, P03SizeTest::game, x -> x.size(1, 0, size), Due.INVALID);
        }
        Due.refused("P3 size 0", P03SizeTest::game, x -> x.size(1, 0, 0), Due.INVALID);
    }

    private static void noSuchPlayer() {
        for (int player : Due.outside(0, 1)) {
            Due.refused("P3 player " + player, P03SizeTest::game, x -> x.size(player, 2, 30), Due.INVALID);
        }
    }

    private static void noSuchWorker() {
        for (int worker : Due.outside(0, 2)) {
            Due.refused("P3 worker " + worker, P03SizeTest::game, x -> x.size(1, worker, 30), Due.INVALID);
        }
    }

    /** "Returns what it was". */
    private static void tellsWhatItWas() {
        SandWorkers x = Due.players(4);
        for (int player = 0; player < 4; player++) {
            for (int worker = 0; worker < 3; worker++) {
                int size = 10 + 3 * player + worker;
                Due.is("P3 at first", x.size(player, worker, size), 30 * worker + 30);
                Due.is("P3 then", x.size(player, worker, 300), size);
                Due.is("P3 now", x.workerOf(player, worker, 0), 300);
            }
        }
    }

    private static void othersKeepTheirs() {
        SandWorkers x = Due.players(2);
        x.size(1, 1, 77);
        for (int worker = 0; worker < 3; worker++) {
            Due.is("P3 of the other player", x.workerOf(0, worker, 0), 30 * worker + 30);
        }
        Due.is("P3 the worker 0", x.workerOf(1, 0, 0), 30);
        Due.is("P3 the worker 1", x.workerOf(1, 1, 0), 77);
        Due.is("P3 the worker 2", x.workerOf(1, 2, 0), 90);
    }

    /** "NOT_POSSIBLE if its sand is not out". */
    private static void refusedWhileSandIsAbove() {
        Due.refused("P3 all sand above", P03SizeTest::game, x -> x.size(0, 1, 61), Due.IMPOSSIBLE);
        Due.refused("P3 a second above", P03SizeTest::game, x -> x.size(0, 0, 31), Due.IMPOSSIBLE);
        Due.refused("P3 its own size", P03SizeTest::game, x -> x.size(0, 0, 30), Due.IMPOSSIBLE);
    }

    private static void possibleOnceItsSandIsOut() {
        SandWorkers x = game();
        Due.is("P3 at home", x.size(0, 2, 7), 90);
        x.pass(1);
        Due.is("P3 on a task with its sand out", x.size(0, 0, 7), 30);
        Due.is("P3 it stays on its task", x.workerOf(0, 0, 1), 0);
        x.home(0, 0);
        Due.is("P3 at home again", x.size(0, 0, 8), 7);
    }

    private static void theSandStaysOut() {
        SandWorkers x = game();
        x.pass(1);
        x.size(0, 0, 300);
        Due.is("P3 no sand comes by it", x.workerOf(0, 0, 2), 0);
        Due.is("P3 no work comes by it", x.pass(1), 0);
        x.put(0, 0, 0);
        Due.is("P3 a put takes the new size", x.workerOf(0, 0, 2), 300);
    }

    private static void invalidRatherThanNotPossible() {
        Due.refused("P3 size 4 of one that runs", P03SizeTest::game, x -> x.size(0, 0, 4), Due.INVALID);
        Due.refused("P3 size 301 of one that runs", P03SizeTest::game, x -> x.size(0, 1, 301), Due.INVALID);
    }

    /** A call that returns no error is a change, whatever it changes. */
    private static void theSameSizeIsAChange() {
        SandWorkers x = Due.players(1);
        Due.is("P3 the size it has", x.size(0, 0, 30), 30);
        Due.is("P3 a state is kept of it", x.count(8), 2);
    }
}
