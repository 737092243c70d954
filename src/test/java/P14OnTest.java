/** Promise 14: on. */
public final class P14OnTest {
    private P14OnTest() {
    }

    public static void main(String[] args) {
        tellsTheOrderOfPutting();
        numbersFromTheFirstToTheLastWorker();
        noSuchTask();
        aPlaceBelowZero();
        notSoMany();
        invalidRatherThanNotFound();
        onceMoreComesLast();
        aRefusedPutKeepsItsPlace();
        thoseBehindMoveUp();
        comingBackComesLast();
        goingElsewhereComesLastThere();
        undoGivesTheOrderBack();
        Due.end();
    }

    /** On the task 0 are 30, 20 and 01 in this order, on the task 1 is 00. */
    private static SandWorkers game() {
        SandWorkers x = Due.players(4);
        x.task(3, 0, 0, 0);
        x.task(3, 0, 0, 0);
        x.task(1, 0, 0, 0);
        x.put(3, 0, 0);
        x.put(2, 0, 0);
        x.put(0, 0, 1);
        x.put(0, 1, 0);
        return x;
    }

    private static void order(String name, SandWorkers x, int first, int second, int third) {
        Due.is("P14 " + name + ", first", x.on(0, 0), first);
        Due.is("P14 " + name + ", second", x.on(0, 1), second);
        Due.is("P14 " + name + ", third", x.on(0, 2), third);
    }

    /** "0 for the one that was put there first, and so on". */
    private static void tellsTheOrderOfPutting() {
        SandWorkers x = game();
        order("as they were put", x, 30, 20, 1);
        Due.is("P14 on the other task", x.on(1, 0), 0);
        SandWorkers y = Due.players(1);
        y.task(3, 0, 0, 0);
        y.put(0, 0, 0);
        y.put(0, 2, 0);
        y.put(0, 1, 0);
        order("of one player", y, 0, 2, 1);
    }

    /** "10 times the player plus the worker". */
    private static void numbersFromTheFirstToTheLastWorker() {
        for (int player = 0; player < 4; player++) {
            for (int worker = 0; worker < 3; worker++) {
                SandWorkers x = Due.players(4);
                x.task(1, 0, 0, 0);
                x.put(player, worker, 0);
                Due.is("P14 " + player + worker, x.on(0, 0), 10 * player + worker);
            }
        }
    }

    /** "INVALID_ARGUMENT if there is no such task". */
    private static void noSuchTask() {
        for (int task : Due.outside(0, 2)) {
            Due.looks("P14 task " + task, P14OnTest::game, x -> x.on(task, 0), Due.INVALID);
        }
    }

    /** "or place is below 0". */
    private static void aPlaceBelowZero() {
        for (int place : new int[] {-1, -2, Integer.MIN_VALUE}) {
            Due.looks("P14 place " + place, P14OnTest::game, x -> x.on(0, place), Due.INVALID);
            Due.looks("P14 place " + place + ", nobody", P14OnTest::game, x -> x.on(2, place), Due.INVALID);
        }
    }

    /** "NOT_FOUND if there are not so many", however great the place. */
    private static void notSoMany() {
        for (int place : new int[] {3, 4, 12, 1000, Integer.MAX_VALUE}) {
            Due.looks("P14 place " + place, P14OnTest::game, x -> x.on(0, place), Due.MISSING);
        }
        Due.looks("P14 one is there", P14OnTest::game, x -> x.on(1, 1), Due.MISSING);
        Due.looks("P14 nobody is there", P14OnTest::game, x -> x.on(2, 0), Due.MISSING);
        Due.is("P14 nobody at all", emptyTask().on(0, 0), Due.MISSING);
    }

    private static SandWorkers emptyTask() {
        SandWorkers x = new SandWorkers();
        x.task(3, 0, 0, 0);
        return x;
    }

    private static void invalidRatherThanNotFound() {
        Due.is("P14 no task, nobody", emptyTask().on(1, 7), Due.INVALID);
        Due.is("P14 below 0, nobody", emptyTask().on(0, -1), Due.INVALID);
    }

    /** "a worker that is put there once more comes last". */
    private static void onceMoreComesLast() {
        SandWorkers x = game();
        x.pass(60);
        x.put(3, 0, 0);
        order("the first once more", x, 20, 1, 30);
        x.put(0, 1, 0);
        order("the middle once more", x, 20, 30, 1);
        x.pass(60);
        x.put(0, 1, 0);
        order("the last once more", x, 20, 30, 1);
    }

    private static void aRefusedPutKeepsItsPlace() {
        SandWorkers x = game();
        Due.is("P14 it runs", x.put(3, 0, 0), Due.IMPOSSIBLE);
        order("behind a refused put", x, 30, 20, 1);
    }

    private static void thoseBehindMoveUp() {
        SandWorkers x = game();
        x.pass(30);
        x.home(3, 0);
        order("the first goes home", x, 20, 1, Due.MISSING);
        x.home(2, 0);
        order("the next goes home", x, 1, Due.MISSING, Due.MISSING);
        x.pass(30);
        x.home(0, 1);
        order("the last goes home", x, Due.MISSING, Due.MISSING, Due.MISSING);
    }

    private static void comingBackComesLast() {
        SandWorkers x = game();
        x.pass(30);
        x.home(3, 0);
        x.put(3, 0, 0);
        order("back from home", x, 20, 1, 30);
    }

    private static void goingElsewhereComesLastThere() {
        SandWorkers x = game();
        x.pass(30);
        x.put(3, 0, 1);
        Due.is("P14 it is behind the one there", x.on(1, 1), 30);
        Due.is("P14 the one there stays first", x.on(1, 0), 0);
        order("behind it", x, 20, 1, Due.MISSING);
    }

    private static void undoGivesTheOrderBack() {
        SandWorkers x = game();
        x.pass(60);
        x.put(3, 0, 0);
        x.undo();
        order("behind undo", x, 30, 20, 1);
        x.put(2, 0, 0);
        order("and a put", x, 30, 1, 20);
    }
}
