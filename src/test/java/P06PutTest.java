/** Promise 6: put. */
public final class P06PutTest {
    private P06PutTest() {
    }

    public static void main(String[] args) {
        tellsThePlacesThatAreLeft();
        allSandIsAbove();
        theCostIsPaid();
        allThatAPlayerHasCanBePaid();
        aGoodThatLacksOneIsNotTheCost();
        aCostOfNothingIsAlwaysThere();
        theGainDoesNotPayTheCost();
        anotherPlayersGoodsDoNotPay();
        refusedWhileSandIsAbove();
        possibleOnceItsSandIsOut();
        refusedWithoutAPlace();
        oneThatIsOutHoldsItsPlace();
        itsOwnPlaceIsLeftForIt();
        goingElsewhereLeavesAPlace();
        goingHomeLeavesAPlace();
        noSuchPlayer();
        noSuchWorker();
        noSuchTask();
        invalidRatherThanNotPossible();
        Due.end();
    }

    /** Worker 00 runs with a second above, 01 with all sand above, both on the task 0; 02 is at home. */
    private static SandWorkers game() {
        SandWorkers x = Due.players(2);
        x.task(2, 111, 0, 0);
        x.task(1, 0, 0, 1);
        x.task(1, 600, 0, 2);
        x.put(0, 0, 0);
        x.pass(29);
        x.put(0, 1, 0);
        return x;
    }

    /** "Returns the places that the task has left then". */
    private static void tellsThePlacesThatAreLeft() {
        for (int places = 1; places <= 3; places++) {
            SandWorkers x = Due.players(1);
            x.task(places, 0, 0, 0);
            for (int worker = 0; worker < places; worker++) {
                Due.is("P6 put " + worker + " of " + places, x.put(0, worker, 0), places - worker - 1);
                Due.is("P6 places left", x.taskOf(0, 4), places - worker - 1);
                Due.is("P6 its task", x.workerOf(0, worker, 1), 0);
            }
        }
    }

    /** "all sand of the worker is above". */
    private static void allSandIsAbove() {
        int[] sizes = {5, 6, 299, 300};
        for (int size : sizes) {
            SandWorkers x = Due.players(1);
            x.task(1, 0, 0, 0);
            x.size(0, 2, size);
            x.put(0, 2, 0);
            Due.is("P6 sand of size " + size, x.workerOf(0, 2, 2), size);
            x.pass(size);
            x.put(0, 2, 0);
            Due.is("P6 sand of size " + size + " again", x.workerOf(0, 2, 2), size);
        }
    }

    /** "if its player has the cost: that is paid". */
    private static void theCostIsPaid() {
        SandWorkers x = Due.players(2);
        x.task(3, 123, 0, 0);
        x.put(1, 0, 0);
        Due.is("P6 paid of the good 0", x.playerOf(1, 0), 4);
        Due.is("P6 paid of the good 1", x.playerOf(1, 1), 3);
        Due.is("P6 paid of the good 2", x.playerOf(1, 2), 2);
        for (int good = 0; good < 3; good++) {
            Due.is("P6 the other pays nothing", x.playerOf(0, good), 5);
        }
        x.task(3, 102, 0, 0);
        x.pass(30);
        x.put(1, 0, 1);
        Due.is("P6 paid once more of the good 0", x.playerOf(1, 0), 3);
        Due.is("P6 nothing more of the good 1", x.playerOf(1, 1), 3);
        Due.is("P6 paid once more of the good 2", x.playerOf(1, 2), 0);
    }

    private static void allThatAPlayerHasCanBePaid() {
        SandWorkers x = Due.players(1);
        x.task(1, 555, 0, 0);
        Due.is("P6 all goods", x.put(0, 0, 0), 0);
        for (int good = 0; good < 3; good++) {
            Due.is("P6 none is left", x.playerOf(0, good), 0);
        }
    }

    /** "NOT_POSSIBLE if .. the player has not the cost". */
    private static void aGoodThatLacksOneIsNotTheCost() {
        for (int cost : new int[] {600, 60, 6, 655, 565, 556, 999}) {
            Due.refused("P6 cost " + cost, () -> {
                SandWorkers x = Due.players(2);
                x.task(1, cost, 0, 0);
                return x;
            }, x -> x.put(1, 0, 0), Due.IMPOSSIBLE);
        }
    }

    private static void aCostOfNothingIsAlwaysThere() {
        SandWorkers x = Due.players(1);
        x.task(1, 555, 0, 0);
        x.task(3, 0, 0, 0);
        x.task(3, 1, 0, 0);
        x.put(0, 0, 0);
        Due.is("P6 no cost without goods", x.put(0, 1, 1), 2);
        Due.is("P6 a cost without goods", x.put(0, 2, 2), Due.IMPOSSIBLE);
    }

    private static void theGainDoesNotPayTheCost() {
        Due.refused("P6 a gain above the cost", () -> {
            SandWorkers x = Due.players(1);
            x.task(1, 600, 900, 0);
            return x;
        }, x -> x.put(0, 0, 0), Due.IMPOSSIBLE);
    }

    private static void anotherPlayersGoodsDoNotPay() {
        SandWorkers x = Due.players(2);
        x.task(3, 500, 0, 0);
        x.put(0, 0, 0);
        Due.is("P6 the other still has it", x.put(1, 0, 0), 1);
        Due.is("P6 the first has it no more", x.put(0, 1, 0), Due.IMPOSSIBLE);
    }

    /** "NOT_POSSIBLE if its sand is not out": elsewhere or once more on its own task. */
    private static void refusedWhileSandIsAbove() {
        Due.refused("P6 a second above, elsewhere", P06PutTest::game, x -> x.put(0, 0, 1), Due.IMPOSSIBLE);
        Due.refused("P6 all sand above, elsewhere", P06PutTest::game, x -> x.put(0, 1, 1), Due.IMPOSSIBLE);
        Due.refused("P6 a second above, there", P06PutTest::game, x -> x.put(0, 0, 0), Due.IMPOSSIBLE);
        Due.refused("P6 all sand above, there", P06PutTest::game, x -> x.put(0, 1, 0), Due.IMPOSSIBLE);
    }

    private static void possibleOnceItsSandIsOut() {
        SandWorkers x = game();
        x.pass(1);
        Due.is("P6 there again", x.put(0, 0, 0), 0);
        x.pass(30);
        Due.is("P6 elsewhere", x.put(0, 0, 1), 0);
    }

    /** "NOT_POSSIBLE if .. the task has no place left for it". */
    private static void refusedWithoutAPlace() {
        Due.refused("P6 two of two are there", P06PutTest::game, x -> x.put(0, 2, 0), Due.IMPOSSIBLE);
        Due.refused("P6 for another player too", P06PutTest::game, x -> x.put(1, 0, 0), Due.IMPOSSIBLE);
        SandWorkers x = Due.players(2);
        x.task(3, 0, 0, 0);
        x.put(0, 0, 0);
        x.put(0, 1, 0);
        Due.is("P6 the third of three", x.put(0, 2, 0), 0);
        Due.is("P6 a fourth", x.put(1, 0, 0), Due.IMPOSSIBLE);
    }

    private static void oneThatIsOutHoldsItsPlace() {
        SandWorkers x = game();
        x.pass(60);
        Due.is("P6 both are out and there", x.put(0, 2, 0), Due.IMPOSSIBLE);
        Due.is("P6 no place is left", x.taskOf(0, 4), 0);
    }

    /** "that of the worker itself, if it is on it already". */
    private static void itsOwnPlaceIsLeftForIt() {
        SandWorkers x = game();
        x.pass(60);
        Due.is("P6 on a full task once more", x.put(0, 1, 0), 0);
        Due.is("P6 the other too", x.put(0, 0, 0), 0);
        Due.is("P6 the places stay", x.taskOf(0, 4), 0);
        SandWorkers y = Due.players(1);
        y.task(1, 300, 0, 0);
        y.put(0, 0, 0);
        y.pass(30);
        Due.is("P6 its own place, but not the cost", y.put(0, 0, 0), Due.IMPOSSIBLE);
    }

    private static void goingElsewhereLeavesAPlace() {
        SandWorkers x = game();
        x.pass(1);
        x.put(0, 0, 1);
        Due.is("P6 a place is left behind", x.taskOf(0, 4), 1);
        Due.is("P6 it is on the other alone", x.workerOf(0, 0, 1), 1);
        Due.is("P6 the place is taken again", x.put(1, 2, 0), 0);
    }

    private static void goingHomeLeavesAPlace() {
        SandWorkers x = game();
        x.pass(1);
        x.home(0, 0);
        Due.is("P6 the place of the one at home", x.put(1, 2, 0), 0);
        Due.is("P6 none is left for it", x.put(0, 0, 0), Due.IMPOSSIBLE);
    }

    private static void noSuchPlayer() {
        for (int player : Due.outside(0, 1)) {
            Due.refused("P6 player " + player, P06PutTest::game, x -> x.put(player, 2, 1), Due.INVALID);
        }
    }

    private static void noSuchWorker() {
        for (int worker : Due.outside(0, 2)) {
            Due.refused("P6 worker " + worker, P06PutTest::game, x -> x.put(1, worker, 1), Due.INVALID);
        }
    }

    private static void noSuchTask() {
        for (int task : Due.outside(0, 2)) {
            Due.refused("P6 task " + task, P06PutTest::game, x -> x.put(1, 2, task), Due.INVALID);
        }
    }

    private static void invalidRatherThanNotPossible() {
        for (int task : Due.outside(0, 2)) {
            Due.refused("P6 one that runs, task " + task, P06PutTest::game, x -> x.put(0, 1, task),
                    Due.INVALID);
        }
        Due.refused("P6 no player, no place", P06PutTest::game, x -> x.put(2, 0, 0), Due.INVALID);
        Due.refused("P6 no worker, not the cost", P06PutTest::game, x -> x.put(1, 3, 2), Due.INVALID);
    }
}
