/** Promise 18: best. */
public final class P18BestTest {
    private P18BestTest() {
    }

    public static void main(String[] args) {
        noSuchPlayer();
        noSuchWorker();
        noSuchWhat();
        notPossibleWhileSandIsAbove();
        notFoundWithoutTasks();
        notFoundIfNoneIsPossible();
        invalidRatherThanNotPossible();
        invalidRatherThanNotFound();
        notPossibleRatherThanNotFound();
        theGreatestDifference();
        ofSeveralTheLowest();
        differencesFromLeastToMost();
        allGoodsCountAlike();
        theCostMustBeThere();
        aPlaceMustBeLeft();
        itsOwnPlaceIsLeftForIt();
        changesNothing();
        Due.end();
    }

    /** 00 runs on the only place of the task 0, 01 is at home; nobody can pay the task 1. */
    private static SandWorkers game() {
        SandWorkers x = Due.players(2);
        x.task(1, 0, 900, 0);
        x.task(1, 999, 999, 0);
        x.task(3, 100, 20, 0);
        x.put(0, 0, 0);
        x.pass(29);
        return x;
    }

    private static SandWorkers withNothingPossible() {
        SandWorkers x = Due.players(1);
        x.task(1, 0, 0, 0);
        x.task(1, 600, 999, 0);
        x.put(0, 0, 0);
        return x;
    }

    /** "INVALID_ARGUMENT if an argument is out of range". */
    private static void noSuchPlayer() {
        for (int player : Due.outside(0, 1)) {
            Due.looks("P18 player " + player, P18BestTest::game, x -> x.best(player, 1, 0), Due.INVALID);
        }
    }

    private static void noSuchWorker() {
        for (int worker : Due.outside(0, 2)) {
            Due.looks("P18 worker " + worker, P18BestTest::game, x -> x.best(1, worker, 0), Due.INVALID);
        }
    }

    private static void noSuchWhat() {
        for (int what : Due.outside(0, 1)) {
            Due.looks("P18 what " + what, P18BestTest::game, x -> x.best(1, 1, what), Due.INVALID);
        }
    }

    /** "NOT_POSSIBLE if its sand is not out". */
    private static void notPossibleWhileSandIsAbove() {
        for (int what = 0; what < 2; what++) {
            int which = what;
            Due.looks("P18 a second above", P18BestTest::game, x -> x.best(0, 0, which), Due.IMPOSSIBLE);
        }
        SandWorkers x = game();
        x.pass(1);
        Due.is("P18 out at this second", x.best(0, 0, 0), 0);
    }

    /** "NOT_FOUND if there is none". */
    private static void notFoundWithoutTasks() {
        for (int what = 0; what < 2; what++) {
            SandWorkers x = Due.players(1);
            Due.is("P18 no tasks", x.best(0, 0, what), Due.MISSING);
        }
    }

    private static void notFoundIfNoneIsPossible() {
        for (int what = 0; what < 2; what++) {
            int which = what;
            Due.looks("P18 no place, not the cost", P18BestTest::withNothingPossible,
                    x -> x.best(0, 1, which), Due.MISSING);
        }
    }

    private static void invalidRatherThanNotPossible() {
        for (int what : Due.outside(0, 1)) {
            Due.looks("P18 one that runs, what " + what, P18BestTest::game, x -> x.best(0, 0, what),
                    Due.INVALID);
        }
    }

    private static void invalidRatherThanNotFound() {
        for (int what : Due.outside(0, 1)) {
            Due.looks("P18 none, what " + what, P18BestTest::withNothingPossible, x -> x.best(0, 1, what),
                    Due.INVALID);
            Due.looks("P18 no tasks, what " + what, () -> Due.players(1), x -> x.best(0, 1, what),
                    Due.INVALID);
        }
    }

    /** One that runs, and there would be no task for it either. */
    private static void notPossibleRatherThanNotFound() {
        SandWorkers x = Due.players(1);
        x.task(1, 500, 0, 0);
        x.put(0, 0, 0);
        Due.is("P18 it runs, and has not the cost", x.best(0, 0, 0), Due.IMPOSSIBLE);
        Due.is("P18 the others are out", x.best(0, 1, 0), Due.MISSING);
    }

    private static void theGreatestDifference() {
        for (int best = 0; best < 8; best++) {
            SandWorkers x = Due.players(1);
            for (int i = 0; i < 8; i++) {
                x.task(1, 1, i == best ? 3 : 2, 0);
            }
            Due.is("P18 the best is " + best, x.best(0, 0, 0), best);
            Due.is("P18 its difference", x.best(0, 0, 1), 102);
        }
    }

    /** "of several the lowest". */
    private static void ofSeveralTheLowest() {
        SandWorkers x = Due.players(1);
        x.task(1, 3, 0, 0);
        x.task(1, 0, 900, 0);
        x.task(1, 9, 999, 0);
        x.task(1, 1, 118, 0);
        x.task(1, 0, 90, 0);
        Due.is("P18 nine each", x.best(0, 0, 0), 1);
        x.put(0, 0, 1);
        Due.is("P18 the cost of 9 is not there", x.best(0, 1, 0), 3);
        x.put(0, 1, 3);
        Due.is("P18 the last of them", x.best(0, 2, 0), 4);
    }

    /** "1: the difference plus 100". */
    private static void differencesFromLeastToMost() {
        SandWorkers x = Due.players(1);
        x.task(1, 555, 0, 0);
        Due.is("P18 15 less", x.best(0, 0, 1), 85);
        Due.is("P18 it is the best all the same", x.best(0, 0, 0), 0);
        x.task(1, 0, 0, 0);
        Due.is("P18 no difference", x.best(0, 0, 1), 100);
        Due.is("P18 it is the better one", x.best(0, 0, 0), 1);
        x.task(1, 0, 999, 0);
        Due.is("P18 27 more", x.best(0, 0, 1), 127);
        Due.is("P18 it is the best of all", x.best(0, 0, 0), 2);
        SandWorkers y = Due.players(1);
        y.task(1, 0, 999, 0);
        y.size(0, 0, 5);
        y.put(0, 0, 0);
        y.pass(5);
        y.put(0, 1, 0);
        y.task(1, 999, 0, 0);
        Due.is("P18 27 less", y.best(0, 2, 1), 73);
    }

    /** "all amounts of its gain together, less all amounts of its cost together". */
    private static void allGoodsCountAlike() {
        for (int one = 1; one <= 100; one *= 10) {
            SandWorkers x = Due.players(1);
            x.task(1, 0, 7 * one, 0);
            Due.is("P18 gain " + 7 * one, x.best(0, 0, 1), 107);
            SandWorkers y = Due.players(1);
            y.task(1, 4 * one, 0, 0);
            Due.is("P18 cost " + 4 * one, y.best(0, 0, 1), 96);
        }
        SandWorkers z = Due.players(1);
        z.task(1, 432, 765, 0);
        Due.is("P18 18 less 9", z.best(0, 0, 1), 109);
    }

    private static void theCostMustBeThere() {
        SandWorkers x = Due.players(1);
        x.task(1, 600, 999, 0);
        x.task(1, 60, 999, 0);
        x.task(1, 6, 999, 0);
        Due.is("P18 six of any is not there", x.best(0, 0, 0), Due.MISSING);
        x.task(1, 555, 1, 0);
        Due.is("P18 five of each is", x.best(0, 0, 0), 3);
    }

    /** "of those on which it could be put now". */
    private static void aPlaceMustBeLeft() {
        SandWorkers x = game();
        Due.is("P18 the place is taken", x.best(0, 1, 0), 2);
        Due.is("P18 for the other player too", x.best(1, 1, 0), 2);
        x.pass(1);
        Due.is("P18 by one that is out, too", x.best(0, 1, 0), 2);
        x.home(0, 0);
        Due.is("P18 it is left", x.best(0, 1, 0), 0);
    }

    private static void itsOwnPlaceIsLeftForIt() {
        SandWorkers x = game();
        x.pass(1);
        Due.is("P18 where it is already", x.best(0, 0, 0), 0);
        Due.is("P18 its difference", x.best(0, 0, 1), 109);
    }

    private static void changesNothing() {
        Due.looks("P18 which", P18BestTest::game, x -> x.best(1, 2, 0), 2);
        Due.looks("P18 its difference", P18BestTest::game, x -> x.best(1, 2, 1), 101);
    }
}
