/** Promise 13: taskOf. */
public final class P13TaskOfTest {
    private P13TaskOfTest() {
    }

    public static void main(String[] args) {
        tellsEach();
        noSuchTask();
        noSuchWhat();
        placesLeftFromAllToNone();
        worksAreThoseOfTheTask();
        Due.end();
    }

    private static SandWorkers game() {
        SandWorkers x = Due.players(2);
        x.task(1, 7, 8, 2);
        x.task(3, 123, 456, 1);
        x.put(0, 0, 1);
        x.put(1, 0, 1);
        x.pass(30);
        return x;
    }

    private static void tellsEach() {
        SandWorkers x = game();
        int[] first = {1, 7, 8, 2, 1, 0};
        int[] second = {3, 123, 456, 1, 1, 2};
        for (int what = 0; what < 6; what++) {
            Due.is("P13 taskOf(0, " + what + ")", x.taskOf(0, what), first[what]);
            Due.is("P13 taskOf(1, " + what + ")", x.taskOf(1, what), second[what]);
        }
    }

    /** "INVALID_ARGUMENT if an argument is out of range". */
    private static void noSuchTask() {
        for (int task : Due.outside(0, 1)) {
            for (int what = 0; what < 6; what++) {
                int which = what;
                Due.looks("P13 taskOf(" + task + ", " + what + ")", P13TaskOfTest::game,
                        x -> x.taskOf(task, which), Due.INVALID);
            }
        }
    }

    private static void noSuchWhat() {
        for (int what : Due.outside(0, 5)) {
            Due.looks("P13 what " + what, P13TaskOfTest::game, x -> x.taskOf(1, what), Due.INVALID);
        }
    }

    /** "4: places that are left". */
    private static void placesLeftFromAllToNone() {
        SandWorkers x = Due.players(1);
        x.task(3, 0, 0, 0);
        for (int worker = 0; worker < 3; worker++) {
            Due.is("P13 places left", x.taskOf(0, 4), 3 - worker);
            x.put(0, worker, 0);
        }
        Due.is("P13 none is left", x.taskOf(0, 4), 0);
        x.pass(90);
        Due.is("P13 none while they are there", x.taskOf(0, 4), 0);
        for (int worker = 0; worker < 3; worker++) {
            x.home(0, worker);
            Due.is("P13 left again", x.taskOf(0, 4), worker + 1);
        }
        Due.is("P13 its places stay", x.taskOf(0, 0), 3);
    }

    /** "5: works done on it so far". */
    private static void worksAreThoseOfTheTask() {
        SandWorkers x = game();
        x.put(1, 1, 0);
        x.home(0, 0);
        x.pass(60);
        Due.is("P13 works of the task 0", x.taskOf(0, 5), 1);
        Due.is("P13 works of the task 1", x.taskOf(1, 5), 2);
    }
}
