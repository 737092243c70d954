/** Promise 8: flip. */
public final class P08FlipTest {
    private P08FlipTest() {
    }

    public static void main(String[] args) {
        itsSandBecomesItsSizeLessThat();
        halfStaysHalf();
        aSecondAboveBecomesAllButOne();
        allButOneBecomesASecond();
        allSandAboveEndsItsWork();
        endedWorksGainAndTakeEffect();
        fullOnesAreEndedByTheEffect();
        theOneThatIsDoneIsNotFlippedBack();
        eachFlipCounts();
        noSecondPasses();
        refusedAtHome();
        refusedOnATaskWithItsSandOut();
        refusedBehindAFlipThatEndedIt();
        noSuchPlayer();
        noSuchWorker();
        Due.end();
    }

    /** Worker 00 has 20 of 30 above, 02 all of 90; 10 is out on the task, 01 at home. */
    private static SandWorkers game() {
        SandWorkers x = Due.players(2);
        x.task(3, 0, 0, 0);
        x.size(1, 0, 5);
        x.put(1, 0, 0);
        x.put(0, 0, 0);
        x.pass(10);
        x.put(0, 2, 0);
        return x;
    }

    /** "its sand above becomes its size less that", "Returns its sand above then". */
    private static void itsSandBecomesItsSizeLessThat() {
        for (int passed = 1; passed < 30; passed++) {
            SandWorkers x = Due.players(1);
            x.task(1, 0, 0, 0);
            x.put(0, 0, 0);
            x.pass(passed);
            Due.is("P8 flip behind " + passed, x.flip(0, 0), passed);
            Due.is("P8 its sand behind " + passed, x.workerOf(0, 0, 2), passed);
            Due.is("P8 flipped back", x.flip(0, 0), 30 - passed);
            Due.is("P8 no work by it", x.count(4), 0);
        }
    }

    private static void halfStaysHalf() {
        SandWorkers x = Due.players(1);
        x.task(1, 0, 0, 0);
        x.put(0, 1, 0);
        x.pass(30);
        Due.is("P8 30 of 60", x.flip(0, 1), 30);
        Due.is("P8 it is a flip", x.workerOf(0, 1, 5), 1);
    }

    private static void aSecondAboveBecomesAllButOne() {
        SandWorkers x = Due.players(1);
        x.task(1, 0, 0, 0);
        x.size(0, 0, 300);
        x.put(0, 0, 0);
        x.pass(299);
        Due.is("P8 1 of 300", x.flip(0, 0), 299);
        Due.is("P8 runs 298 more", x.pass(298), 0);
        Due.is("P8 and then one", x.pass(1), 1);
    }

    private static void allButOneBecomesASecond() {
        SandWorkers x = Due.players(1);
        x.task(1, 0, 0, 0);
        x.size(0, 0, 5);
        x.put(0, 0, 0);
        x.pass(1);
        Due.is("P8 4 of 5", x.flip(0, 0), 1);
        Due.is("P8 not done yet", x.count(4), 0);
        Due.is("P8 done a second later", x.pass(1), 1);
    }

    /** "0 if its work is done by that". */
    private static void allSandAboveEndsItsWork() {
        for (int size : new int[] {5, 30, 300}) {
            SandWorkers x = Due.players(1);
            x.task(1, 0, 0, 0);
            x.size(0, 0, size);
            x.put(0, 0, 0);
            Due.is("P8 all of " + size, x.flip(0, 0), 0);
            Due.is("P8 no sand is above", x.workerOf(0, 0, 2), 0);
            Due.is("P8 its work is done", x.workerOf(0, 0, 3), 1);
            Due.is("P8 on the task", x.taskOf(0, 5), 1);
            Due.is("P8 it is still there", x.workerOf(0, 0, 1), 0);
            Due.is("P8 it is out", x.playerOf(0, 5), 3);
            Due.is("P8 it can be put again", x.put(0, 0, 0), 0);
        }
    }

    private static void endedWorksGainAndTakeEffect() {
        SandWorkers x = Due.players(2);
        x.task(1, 0, 123, 2);
        x.put(1, 0, 0);
        x.flip(1, 0);
        Due.is("P8 gain of the good 0", x.playerOf(1, 0), 6);
        Due.is("P8 gain of the good 1", x.playerOf(1, 1), 7);
        Due.is("P8 gain of the good 2", x.playerOf(1, 2), 8);
        Due.is("P8 the point", x.playerOf(1, 3), 1);
        Due.is("P8 no point of the other", x.playerOf(0, 3), 0);
    }

    /** "If it becomes 0, its work is done as told; this comes behind the work that is done already". */
    private static void fullOnesAreEndedByTheEffect() {
        SandWorkers x = Due.players(2);
        x.task(3, 0, 100, 1);
        x.task(3, 0, 10, 2);
        x.put(1, 2, 1);
        x.pass(20);
        x.put(0, 0, 0);
        x.put(0, 1, 0);
        x.put(1, 0, 1);
        Due.is("P8 a full one", x.flip(0, 0), 0);
        // 00 flips 01 (out), 10 (out) and 12 (70 to 20); then 01 flips 12 (20 to 70).
        Due.is("P8 works", x.count(4), 3);
        Due.is("P8 the work of 01", x.workerOf(0, 1, 3), 1);
        Due.is("P8 the work of 10", x.workerOf(1, 0, 3), 1);
        Due.is("P8 goods of the player 0", x.playerOf(0, 0), 7);
        Due.is("P8 goods of the player 1", x.playerOf(1, 1), 6);
        Due.is("P8 the point of the player 1", x.playerOf(1, 3), 1);
        Due.is("P8 sand of 12", x.workerOf(1, 2, 2), 70);
        Due.is("P8 12 is flipped twice", x.workerOf(1, 2, 5), 2);
        Due.is("P8 01 is flipped once", x.workerOf(0, 1, 5), 1);
        Due.is("P8 all flips", x.count(5), 5);
    }

    /** "all other workers on tasks that have sand above": a dozen full ones end each other once. */
    private static void theOneThatIsDoneIsNotFlippedBack() {
        SandWorkers x = Due.players(4);
        for (int task = 0; task < 4; task++) {
            x.task(3, 0, 1, 1);
            for (int worker = 0; worker < 3; worker++) {
                x.put(task, worker, task);
            }
        }
        Due.is("P8 the last of the dozen", x.flip(3, 2), 0);
        Due.is("P8 all works are done", x.count(4), 12);
        Due.is("P8 each is flipped once", x.count(5), 12);
        for (int player = 0; player < 4; player++) {
            Due.is("P8 gains of " + player, x.playerOf(player, 2), 8);
            Due.is("P8 all out of " + player, x.playerOf(player, 5), 3);
        }
        Due.is("P8 no sand is above", x.next(0), Due.MISSING);
    }

    private static void eachFlipCounts() {
        SandWorkers x = game();
        x.flip(0, 0);
        x.flip(0, 0);
        x.flip(0, 2);
        Due.is("P8 flips of 00", x.workerOf(0, 0, 5), 2);
        Due.is("P8 the flip that ended it", x.workerOf(0, 2, 5), 1);
        Due.is("P8 all flips", x.count(5), 3);
    }

    private static void noSecondPasses() {
        SandWorkers x = game();
        x.flip(0, 2);
        Due.is("P8 seconds", x.count(3), 10);
        Due.is("P8 sand of the other", x.workerOf(0, 0, 2), 20);
        Due.is("P8 no waiting by it", x.workerOf(0, 2, 4), 10);
    }

    /** "NOT_POSSIBLE if its sand is out": at home it has none above. */
    private static void refusedAtHome() {
        Due.refused("P8 at home", P08FlipTest::game, x -> x.flip(0, 1), Due.IMPOSSIBLE);
    }

    private static void refusedOnATaskWithItsSandOut() {
        Due.refused("P8 out on a task", P08FlipTest::game, x -> x.flip(1, 0), Due.IMPOSSIBLE);
        SandWorkers x = game();
        x.pass(19);
        Due.is("P8 a second above", x.flip(0, 0), 29);
        x.flip(0, 0);
        x.pass(1);
        Due.is("P8 none above", x.flip(0, 0), Due.IMPOSSIBLE);
    }

    private static void refusedBehindAFlipThatEndedIt() {
        Due.refused("P8 ended by a flip", () -> {
            SandWorkers x = game();
            x.flip(0, 2);
            return x;
        }, x -> x.flip(0, 2), Due.IMPOSSIBLE);
    }

    private static void noSuchPlayer() {
        for (int player : Due.outside(0, 1)) {
            Due.refused("P8 player " + player, P08FlipTest::game, x -> x.flip(player, 0), Due.INVALID);
        }
    }

    private static void noSuchWorker() {
        for (int worker : Due.outside(0, 2)) {
            Due.refused("P8 worker " + worker, P08FlipTest::game, x -> x.flip(0, worker), Due.INVALID);
        }
    }
}
