/** Promise 4: task. */
public final class P04TaskTest {
    private P04TaskTest() {
    }

    public static void main(String[] args) {
        numbersGoUpFromZero();
        aNinthIsRefused();
        undoMakesRoomForAnother();
        placesFromOneToThree();
        placesOutside();
        costsFromNoneToAll();
        costsOutside();
        gainsFromNoneToAll();
        gainsOutside();
        effectsFromNoneToPoint();
        effectsOutside();
        invalidRatherThanTheLimit();
        nobodyIsOnItAtFirst();
        theNumberBehindTheLastIsNone();
        Due.end();
    }

    private static SandWorkers tasks(int number) {
        SandWorkers x = Due.players(1);
        for (int i = 0; i < number; i++) {
            x.task(1 + i % 3, 100 + i, 200 + i, i % 3);
        }
        return x;
    }

    /** "There are at most 8 tasks, numbered from 0". */
    private static void numbersGoUpFromZero() {
        SandWorkers x = new SandWorkers();
        for (int i = 0; i < 8; i++) {
            Due.is("P4 task " + i, x.task(1 + i % 3, 100 + i, 200 + i, i % 3), i);
            Due.is("P4 tasks", x.count(1), i + 1);
        }
        for (int i = 0; i < 8; i++) {
            Due.is("P4 places of " + i, x.taskOf(i, 0), 1 + i % 3);
            Due.is("P4 cost of " + i, x.taskOf(i, 1), 100 + i);
            Due.is("P4 gain of " + i, x.taskOf(i, 2), 200 + i);
            Due.is("P4 effect of " + i, x.taskOf(i, 3), i % 3);
        }
    }

    /** "LIMIT_REACHED if there are 8". */
    private static void aNinthIsRefused() {
        Due.refused("P4 a ninth task", () -> tasks(8), x -> x.task(1, 0, 0, 0), Due.LIMIT);
        SandWorkers x = tasks(8);
        for (int i = 0; i < 3; i++) {
            Due.is("P4 a ninth task, again", x.task(3, 999, 999, 2), Due.LIMIT);
        }
        Due.is("P4 they stay 8", x.count(1), 8);
        Due.is("P4 no task 8", x.taskOf(8, 0), Due.INVALID);
    }

    private static void undoMakesRoomForAnother() {
        SandWorkers x = tasks(8);
        x.undo();
        Due.is("P4 the eighth is undone", x.taskOf(7, 0), Due.INVALID);
        Due.is("P4 an eighth again", x.task(3, 1, 2, 2), 7);
        Due.is("P4 its cost", x.taskOf(7, 1), 1);
        Due.is("P4 no ninth", x.task(1, 0, 0, 0), Due.LIMIT);
    }

    /** "places: 1 to 3". */
    private static void placesFromOneToThree() {
        SandWorkers x = new SandWorkers();
        for (int places = 1; places <= 3; places++) {
            Due.is("P4 places " + places, x.task(places, 0, 0, 0), places - 1);
            Due.is("P4 its places " + places, x.taskOf(places - 1, 0), places);
        }
    }

    private static void placesOutside() {
        for (int places : Due.outside(1, 3)) {
            Due.refused("P4 places " + places, () -> tasks(2), x -> x.task(places, 0, 0, 0), Due.INVALID);
        }
    }

    /** "cost: 0 to 999", "its hundreds are the amount of the good 0" and so on. */
    private static void costsFromNoneToAll() {
        SandWorkers x = new SandWorkers();
        int[] costs = {0, 1, 9, 10, 90, 100, 900, 999};
        for (int i = 0; i < costs.length; i++) {
            Due.is("P4 cost " + costs[i], x.task(1, costs[i], 0, 0), i);
            Due.is("P4 its cost " + costs[i], x.taskOf(i, 1), costs[i]);
            Due.is("P4 no gain with the cost " + costs[i], x.taskOf(i, 2), 0);
        }
    }

    private static void costsOutside() {
        for (int cost : Due.outside(0, 999)) {
            Due.refused("P4 cost " + cost, () -> tasks(2), x -> x.task(1, cost, 0, 0), Due.INVALID);
        }
    }

    /** "gain: 0 to 999". */
    private static void gainsFromNoneToAll() {
        SandWorkers x = new SandWorkers();
        int[] gains = {0, 1, 9, 10, 90, 100, 900, 999};
        for (int i = 0; i < gains.length; i++) {
            Due.is("P4 gain " + gains[i], x.task(1, 0, gains[i], 0), i);
            Due.is("P4 its gain " + gains[i], x.taskOf(i, 2), gains[i]);
            Due.is("P4 no cost with the gain " + gains[i], x.taskOf(i, 1), 0);
        }
    }

    private static void gainsOutside() {
        for (int gain : Due.outside(0, 999)) {
            Due.refused("P4 gain " + gain, () -> tasks(2), x -> x.task(1, 0, gain, 0), Due.INVALID);
        }
    }

    /** "effect: 0 to 2". */
    private static void effectsFromNoneToPoint() {
        SandWorkers x = new SandWorkers();
        for (int effect = 0; effect <= 2; effect++) {
            Due.is("P4 effect " + effect, x.task(1, 0, 0, effect), effect);
            Due.is("P4 its effect " + effect, x.taskOf(effect, 3), effect);
        }
    }

    private static void effectsOutside() {
        for (int effect : Due.outside(0, 2)) {
            Due.refused("P4 effect " + effect, () -> tasks(2), x -> x.task(1, 0, 0, effect), Due.INVALID);
        }
    }

    /** "INVALID_ARGUMENT is returned rather than .. LIMIT_REACHED". */
    private static void invalidRatherThanTheLimit() {
        for (int far : new int[] {Integer.MIN_VALUE, -1, 1000, Integer.MAX_VALUE}) {
            Due.refused("P4 a ninth, places " + far, () -> tasks(8), x -> x.task(far, 0, 0, 0), Due.INVALID);
            Due.refused("P4 a ninth, cost " + far, () -> tasks(8), x -> x.task(1, far, 0, 0), Due.INVALID);
            Due.refused("P4 a ninth, gain " + far, () -> tasks(8), x -> x.task(1, 0, far, 0), Due.INVALID);
            Due.refused("P4 a ninth, effect " + far, () -> tasks(8), x -> x.task(1, 0, 0, far), Due.INVALID);
        }
    }

    private static void nobodyIsOnItAtFirst() {
        SandWorkers x = tasks(8);
        for (int task = 0; task < 8; task++) {
            Due.is("P4 all places left", x.taskOf(task, 4), 1 + task % 3);
            Due.is("P4 no works", x.taskOf(task, 5), 0);
            Due.is("P4 nobody on it", x.on(task, 0), Due.MISSING);
        }
    }

    /** "If there is no .. task .. with a certain number, this is INVALID_ARGUMENT." */
    private static void theNumberBehindTheLastIsNone() {
        for (int tasks = 0; tasks <= 8; tasks++) {
            SandWorkers x = tasks(tasks);
            for (int number = -1; number <= 9; number++) {
                boolean there = number >= 0 && number < tasks;
                Due.is("P4 task " + number + " of " + tasks,
                        x.taskOf(number, 5), there ? 0 : Due.INVALID);
            }
        }
    }
}
