/** Promise 10: pass. */
public final class P10PassTest {
    private P10PassTest() {
    }

    public static void main(String[] args) {
        secondsFromOneToSixHundred();
        aWorkInTheLastOf600();
        secondsOutside();
        upToTheSecond9999();
        laterThan9999();
        invalidRatherThanTheLimit();
        nothingRunsInARefusedPass();
        sandBecomesOneLess();
        workIsDoneWithTheLastSecond();
        noneBecomesNoLess();
        tellsTheWorksInTheseSeconds();
        worksInOneSecondAreAllDone();
        eachGoodIsGained();
        aGoodUpTo99IsKept();
        whatIsAbove99IsLost();
        aFullPlayerLosesTheWholeGain();
        effectNone();
        effectPoint();
        pointsByTheEffectHaveNoLimit();
        effectFlipTurnsAllOthersWithSand();
        effectFlipLeavesThoseThatAreOut();
        effectFlipLeavesThoseAtHome();
        aSecondAboveIsFlippedToAllButOne();
        twoFlipsInOneSecondTurnBack();
        manySecondsAreAsEachAlone();
        waitingIsOutAtTheBeginningOfASecond();
        waitingGoesOnOnATask();
        Due.end();
    }

    /** Worker 00 has a second above, 01 is at home, 02 has all sand above. */
    private static SandWorkers game() {
        SandWorkers x = Due.players(1);
        x.task(3, 0, 111, 2);
        x.put(0, 0, 0);
        x.pass(29);
        x.put(0, 2, 0);
        return x;
    }

    private static SandWorkers at(int second) {
        SandWorkers x = Due.players(1);
        x.task(1, 0, 100, 2);
        Due.pass(x, second);
        x.size(0, 0, 5);
        x.put(0, 0, 0);
        return x;
    }

    /** "seconds: 1 to 600". */
    private static void secondsFromOneToSixHundred() {
        SandWorkers x = new SandWorkers();
        Due.is("P10 pass 1", x.pass(1), 0);
        Due.is("P10 a second", x.count(3), 1);
        Due.is("P10 pass 600", x.pass(600), 0);
        Due.is("P10 seconds", x.count(3), 601);
    }

    /** 00 is flipped at 155 from 135 to 165, and at 310 from 10 to 290. */
    private static void aWorkInTheLastOf600() {
        for (int seconds = 599; seconds <= 600; seconds++) {
            SandWorkers x = Due.players(3);
            x.task(3, 0, 1, 1);
            for (int player = 0; player < 3; player++) {
                x.size(player, 0, player == 1 ? 155 : 300);
            }
            x.put(0, 0, 0);
            x.pass(10);
            x.put(1, 0, 0);
            x.put(2, 0, 0);
            Due.is("P10 works in " + seconds, x.pass(seconds), seconds - 597);
            Due.is("P10 sand behind " + seconds, x.workerOf(0, 0, 2), 600 - seconds);
        }
    }

    /** "INVALID_ARGUMENT if seconds is out of range". */
    private static void secondsOutside() {
        for (int seconds : Due.outside(1, 600)) {
            Due.refused("P10 pass " + seconds, P10PassTest::game, x -> x.pass(seconds), Due.INVALID);
        }
        Due.refused("P10 pass -1", P10PassTest::game, x -> x.pass(-1), Due.INVALID);
    }

    /** "LIMIT_REACHED if it would be later than 9999 then": 9999 itself is not. */
    private static void upToTheSecond9999() {
        SandWorkers x = at(9400);
        Due.is("P10 up to 9999 at once", x.pass(599), 1);
        Due.is("P10 it is 9999", x.count(3), 9999);
        SandWorkers y = at(9998);
        Due.is("P10 the last second", y.pass(1), 0);
        Due.is("P10 it is 9999 too", y.count(3), 9999);
    }

    private static void laterThan9999() {
        Due.refused("P10 600 at 9400", () -> at(9400), x -> x.pass(600), Due.LIMIT);
        Due.refused("P10 2 at 9998", () -> at(9998), x -> x.pass(2), Due.LIMIT);
        Due.refused("P10 1 at 9999", () -> at(9999), x -> x.pass(1), Due.LIMIT);
        Due.refused("P10 600 at 9999", () -> at(9999), x -> x.pass(600), Due.LIMIT);
    }

    /** "INVALID_ARGUMENT is returned rather than .. LIMIT_REACHED". */
    private static void invalidRatherThanTheLimit() {
        for (int seconds : Due.outside(1, 600)) {
            Due.refused("P10 " + seconds + " at 9999", () -> at(9999), x -> x.pass(seconds), Due.INVALID);
        }
    }

    private static void nothingRunsInARefusedPass() {
        SandWorkers x = at(9996);
        Due.is("P10 a work would be done by then", x.pass(5), Due.LIMIT);
        Due.is("P10 all sand is above", x.workerOf(0, 0, 2), 5);
        Due.is("P10 nothing is gained", x.playerOf(0, 0), 5);
        Due.is("P10 what is left can pass", x.pass(3), 0);
        Due.is("P10 it is 9999", x.count(3), 9999);
    }

    /** "Each second the sand above of each worker on a task becomes 1 less". */
    private static void sandBecomesOneLess() {
        SandWorkers x = Due.players(2);
        x.task(3, 0, 0, 0);
        x.task(3, 0, 0, 0);
        x.put(0, 0, 0);
        x.put(1, 2, 1);
        for (int second = 1; second < 30; second++) {
            Due.is("P10 no work at " + second, x.pass(1), 0);
            Due.is("P10 sand of 00 at " + second, x.workerOf(0, 0, 2), 30 - second);
            Due.is("P10 sand of 12 at " + second, x.workerOf(1, 2, 2), 90 - second);
        }
    }

    /** "When it becomes 0 by that, the work is done". */
    private static void workIsDoneWithTheLastSecond() {
        SandWorkers x = Due.players(1);
        x.task(1, 0, 0, 0);
        x.put(0, 0, 0);
        Due.is("P10 29 seconds", x.pass(29), 0);
        Due.is("P10 a second is above", x.workerOf(0, 0, 2), 1);
        Due.is("P10 no work yet", x.workerOf(0, 0, 3), 0);
        Due.is("P10 the last second", x.pass(1), 1);
        Due.is("P10 none is above", x.workerOf(0, 0, 2), 0);
        Due.is("P10 its work", x.workerOf(0, 0, 3), 1);
        Due.is("P10 that of the task", x.taskOf(0, 5), 1);
        Due.is("P10 it is still there", x.workerOf(0, 0, 1), 0);
    }

    /** "if there is any": what is out is not done once more. */
    private static void noneBecomesNoLess() {
        SandWorkers x = Due.players(1);
        x.task(1, 0, 100, 2);
        x.put(0, 0, 0);
        x.pass(30);
        Due.is("P10 nothing is done behind it", x.pass(600), 0);
        Due.is("P10 none stays none", x.workerOf(0, 0, 2), 0);
        Due.is("P10 gained once", x.playerOf(0, 0), 6);
        Due.is("P10 one point", x.playerOf(0, 3), 1);
    }

    /** "Returns how many works are done in them". */
    private static void tellsTheWorksInTheseSeconds() {
        SandWorkers x = Due.players(2);
        x.task(3, 0, 0, 0);
        x.put(0, 0, 0);
        x.put(0, 1, 0);
        x.put(1, 2, 0);
        Due.is("P10 none in 29", x.pass(29), 0);
        Due.is("P10 one in the next", x.pass(1), 1);
        Due.is("P10 two in 60", x.pass(60), 2);
        Due.is("P10 none later", x.pass(600), 0);
        Due.is("P10 all of them", x.count(4), 3);
    }

    private static void worksInOneSecondAreAllDone() {
        SandWorkers x = Due.players(4);
        for (int task = 0; task < 4; task++) {
            x.task(3, 0, 10, 2);
            for (int worker = 0; worker < 3; worker++) {
                x.size(3 - task, worker, 40);
                x.put(3 - task, worker, task);
            }
        }
        Due.is("P10 none in 39", x.pass(39), 0);
        Due.is("P10 a dozen in one second", x.pass(1), 12);
        for (int player = 0; player < 4; player++) {
            Due.is("P10 gains of " + player, x.playerOf(player, 1), 8);
            Due.is("P10 points of " + player, x.playerOf(player, 3), 3);
            Due.is("P10 works of " + player, x.playerOf(player, 4), 3);
        }
    }

    /** "the player gains the gain of the task". */
    private static void eachGoodIsGained() {
        SandWorkers x = Due.players(2);
        x.task(1, 0, 123, 0);
        x.task(1, 0, 999, 0);
        x.put(1, 0, 0);
        x.pass(30);
        Due.is("P10 good 0", x.playerOf(1, 0), 6);
        Due.is("P10 good 1", x.playerOf(1, 1), 7);
        Due.is("P10 good 2", x.playerOf(1, 2), 8);
        Due.is("P10 the other gains nothing", x.playerOf(0, 2), 5);
        x.put(1, 0, 1);
        x.pass(30);
        Due.is("P10 nine more of the good 0", x.playerOf(1, 0), 15);
        Due.is("P10 nine more of the good 1", x.playerOf(1, 1), 16);
        Due.is("P10 nine more of the good 2", x.playerOf(1, 2), 17);
    }

    /** A player with 95 of each good, 5 and ten times 9, and tasks of all gains of one good. */
    private static SandWorkers rich() {
        SandWorkers x = Due.players(1);
        x.task(1, 0, 999, 0);
        x.size(0, 0, 5);
        for (int i = 0; i < 10; i++) {
            x.put(0, 0, 0);
            x.pass(5);
        }
        x.task(1, 0, 444, 0);
        x.task(1, 0, 555, 0);
        x.task(1, 0, 400, 0);
        x.task(1, 0, 40, 0);
        x.task(1, 0, 4, 0);
        return x;
    }

    /** "of each good at most up to 99". */
    private static void aGoodUpTo99IsKept() {
        SandWorkers x = rich();
        Due.is("P10 95 are there", x.playerOf(0, 0), 95);
        x.put(0, 0, 1);
        x.pass(5);
        for (int good = 0; good < 3; good++) {
            Due.is("P10 99 are kept of " + good, x.playerOf(0, good), 99);
        }
        Due.is("P10 none is lost", x.count(7), 0);
    }

    /** "what is more is lost". */
    private static void whatIsAbove99IsLost() {
        SandWorkers x = rich();
        x.put(0, 0, 2);
        x.pass(5);
        for (int good = 0; good < 3; good++) {
            Due.is("P10 99 of the good " + good, x.playerOf(0, good), 99);
        }
        Due.is("P10 one of each is lost", x.count(7), 3);
        for (int good = 0; good < 3; good++) {
            SandWorkers y = rich();
            y.put(0, 0, 3 + good);
            y.pass(5);
            Due.is("P10 this good is full", y.playerOf(0, good), 99);
            Due.is("P10 another is not", y.playerOf(0, (good + 1) % 3), 95);
            y.put(0, 0, 3 + good);
            y.pass(5);
            Due.is("P10 this good stays full", y.playerOf(0, good), 99);
            Due.is("P10 another is still not", y.playerOf(0, (good + 1) % 3), 95);
            Due.is("P10 four are lost", y.count(7), 4);
        }
    }

    private static void aFullPlayerLosesTheWholeGain() {
        SandWorkers x = rich();
        x.put(0, 0, 1);
        x.pass(5);
        x.put(0, 0, 0);
        x.pass(5);
        Due.is("P10 all of it is lost", x.count(7), 27);
        Due.is("P10 99 stay", x.playerOf(0, 1), 99);
        Due.is("P10 the work counts", x.workerOf(0, 0, 3), 12);
    }

    /** "0 none". */
    private static void effectNone() {
        SandWorkers x = Due.players(1);
        x.task(3, 0, 0, 0);
        x.put(0, 0, 0);
        x.put(0, 1, 0);
        x.pass(30);
        Due.is("P10 no flip", x.count(5), 0);
        Due.is("P10 sand runs on", x.workerOf(0, 1, 2), 30);
        Due.is("P10 no point", x.playerOf(0, 3), 0);
    }

    /** "by the effect 2 the player gets a point". */
    private static void effectPoint() {
        SandWorkers x = Due.players(2);
        x.task(3, 0, 0, 2);
        x.put(1, 0, 0);
        x.put(0, 2, 0);
        x.pass(30);
        Due.is("P10 a point", x.playerOf(1, 3), 1);
        Due.is("P10 none of the other", x.playerOf(0, 3), 0);
        Due.is("P10 no flip", x.count(5), 0);
        Due.is("P10 sand runs on", x.workerOf(0, 2, 2), 60);
    }

    private static void pointsByTheEffectHaveNoLimit() {
        SandWorkers x = Due.players(1);
        x.task(1, 0, 0, 2);
        for (int i = 0; i < 5; i++) {
            x.contract(0, 20);
            x.buy(0, 0);
        }
        for (int point = 101; point < 105; point++) {
            x.put(0, 0, 0);
            x.pass(30);
            Due.is("P10 a point above 100", x.playerOf(0, 3), point);
        }
    }

    /** "by the effect 1 all other workers on tasks that have sand above are flipped". */
    private static void effectFlipTurnsAllOthersWithSand() {
        SandWorkers x = Due.players(3);
        x.task(3, 0, 0, 1);
        x.task(3, 0, 0, 0);
        x.put(1, 0, 0);
        x.put(1, 2, 0);
        x.put(0, 1, 1);
        x.put(2, 2, 1);
        x.pass(10);
        x.put(2, 1, 1);
        Due.is("P10 one work", x.pass(20), 1);
        Due.is("P10 of the same player and task", x.workerOf(1, 2, 2), 30);
        Due.is("P10 of a player ahead", x.workerOf(0, 1, 2), 30);
        Due.is("P10 of a player behind", x.workerOf(2, 2, 2), 30);
        Due.is("P10 later put, 40 of 60 above", x.workerOf(2, 1, 2), 20);
        Due.is("P10 flips", x.count(5), 4);
        Due.is("P10 itself not", x.workerOf(1, 0, 5), 0);
        Due.is("P10 no point", x.playerOf(1, 3), 0);
    }

    private static void effectFlipLeavesThoseThatAreOut() {
        SandWorkers x = Due.players(2);
        x.task(3, 0, 0, 1);
        x.task(3, 0, 0, 0);
        x.put(1, 0, 1);
        x.size(0, 0, 31);
        x.put(0, 0, 0);
        x.pass(31);
        Due.is("P10 out on a task, no sand", x.workerOf(1, 0, 2), 0);
        Due.is("P10 out on a task, no flip", x.workerOf(1, 0, 5), 0);
        Due.is("P10 no flips", x.count(5), 0);
    }

    private static void effectFlipLeavesThoseAtHome() {
        SandWorkers x = Due.players(2);
        x.task(3, 0, 0, 1);
        x.put(0, 0, 0);
        x.pass(30);
        for (int worker = 0; worker < 3; worker++) {
            Due.is("P10 at home, no sand", x.workerOf(1, worker, 2), 0);
            Due.is("P10 at home, no flip", x.workerOf(1, worker, 5), 0);
        }
        Due.is("P10 no work comes by it", x.pass(600), 0);
    }

    private static void aSecondAboveIsFlippedToAllButOne() {
        SandWorkers x = Due.players(1);
        x.task(3, 0, 0, 1);
        x.size(0, 0, 10);
        x.size(0, 1, 11);
        x.size(0, 2, 12);
        x.put(0, 0, 0);
        x.put(0, 1, 0);
        x.put(0, 2, 0);
        Due.is("P10 the first", x.pass(10), 1);
        Due.is("P10 1 of 11 is flipped", x.workerOf(0, 1, 2), 10);
        Due.is("P10 2 of 12 is flipped", x.workerOf(0, 2, 2), 10);
        Due.is("P10 two at once", x.pass(10), 2);
        Due.is("P10 those that end at once are not flipped", x.count(5), 2);
    }

    private static void twoFlipsInOneSecondTurnBack() {
        SandWorkers x = Due.players(3);
        x.task(3, 0, 0, 1);
        x.task(3, 0, 0, 0);
        x.size(0, 0, 40);
        x.size(2, 0, 40);
        x.put(2, 0, 0);
        x.put(0, 0, 0);
        x.put(1, 2, 1);
        Due.is("P10 two works", x.pass(40), 2);
        Due.is("P10 flipped and back", x.workerOf(1, 2, 2), 50);
        Due.is("P10 both flips count", x.workerOf(1, 2, 5), 2);
        Due.is("P10 the first is not flipped by the second", x.workerOf(0, 0, 5), 0);
        Due.is("P10 the second is not flipped by the first", x.workerOf(2, 0, 5), 0);
        Due.is("P10 flips", x.count(5), 2);
    }

    private static SandWorkers mixed() {
        SandWorkers x = Due.players(3);
        x.task(3, 0, 321, 1);
        x.task(3, 0, 12, 2);
        x.task(2, 0, 999, 1);
        x.size(0, 0, 7);
        x.size(1, 1, 33);
        x.put(0, 0, 0);
        x.put(0, 1, 1);
        x.put(1, 0, 2);
        x.put(1, 1, 1);
        x.put(2, 2, 0);
        x.put(2, 0, 2);
        return x;
    }

    private static void manySecondsAreAsEachAlone() {
        for (int seconds : new int[] {1, 7, 8, 30, 33, 60, 90, 200, 270}) {
            SandWorkers x = mixed();
            SandWorkers y = mixed();
            int works = x.pass(seconds);
            int sum = 0;
            for (int i = 0; i < seconds; i++) {
                sum += y.pass(1);
            }
            Due.is("P10 works of " + seconds, works, sum);
            Due.alikeNow("P10 " + seconds + " at once", x, y);
        }
    }

    /** "in which its sand was out (at home, or on a task) at their beginning". */
    private static void waitingIsOutAtTheBeginningOfASecond() {
        SandWorkers x = game();
        Due.is("P10 it worked in all", x.workerOf(0, 0, 4), 0);
        x.pass(1);
        Due.is("P10 in its last second it had sand", x.workerOf(0, 0, 4), 0);
        x.pass(1);
        Due.is("P10 in the next it had none", x.workerOf(0, 0, 4), 1);
        Due.is("P10 at home from the first second", x.workerOf(0, 1, 4), 31);
        Due.is("P10 put behind 29", x.workerOf(0, 2, 4), 29);
        x.put(0, 0, 0);
        x.pass(1);
        Due.is("P10 put again it waits no more", x.workerOf(0, 0, 4), 1);
    }

    private static void waitingGoesOnOnATask() {
        SandWorkers x = game();
        x.pass(601 - 100);
        x.pass(100);
        Due.is("P10 on a task, out", x.workerOf(0, 0, 4), 600);
        Due.is("P10 on a task, out later", x.workerOf(0, 2, 4), 29 + 601 - 90);
        Due.is("P10 all of the player", x.playerOf(0, 6), 600 + 630 + 540);
    }
}
