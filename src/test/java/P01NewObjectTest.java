/** Promise 1: the constructor. */
public final class P01NewObjectTest {
    private P01NewObjectTest() {
    }

    public static void main(String[] args) {
        thereIsNoPlayer();
        thereIsNoTask();
        thereIsNoContract();
        noSecondHasPassed();
        nothingWasDone();
        noSandIsAbove();
        theTextIsEmpty();
        theHistoryIsEmpty();
        objectsAreApart();
        callsUpToThe512thCount();
        Due.end();
    }

    /** "Creates a game without players": the number 0 is none, and nobody is ahead. */
    private static void thereIsNoPlayer() {
        SandWorkers x = new SandWorkers();
        Due.is("P1 players", x.count(0), 0);
        Due.is("P1 nobody is ahead", x.count(6), Due.MISSING);
        x.task(1, 0, 0, 0);
        x.contract(0, 1);
        Due.is("P1 size without players", x.size(0, 0, 30), Due.INVALID);
        Due.is("P1 put without players", x.put(0, 0, 0), Due.INVALID);
        Due.is("P1 home without players", x.home(0, 0), Due.INVALID);
        Due.is("P1 flip without players", x.flip(0, 0), Due.INVALID);
        Due.is("P1 buy without players", x.buy(0, 0), Due.INVALID);
        Due.is("P1 playerOf without players", x.playerOf(0, 0), Due.INVALID);
        Due.is("P1 workerOf without players", x.workerOf(0, 0, 0), Due.INVALID);
        Due.is("P1 would without players", x.would(0, 0, 0), Due.INVALID);
        Due.is("P1 best without players", x.best(0, 0, 0), Due.INVALID);
        Due.is("P1 earns without players", x.earns(0, 0, 0), Due.INVALID);
        Due.is("P1 busy without players", x.busy(0, 0), Due.INVALID);
        Due.is("P1 nobody has a price", x.contractOf(0, 2), 0);
        Due.is("P1 time passes without players", x.pass(600), 0);
    }

    /** "Creates a game without .. tasks": the number 0 is none. */
    private static void thereIsNoTask() {
        SandWorkers x = Due.players(1);
        x.contract(0, 1);
        Due.is("P1 tasks", x.count(1), 0);
        Due.is("P1 put without tasks", x.put(0, 0, 0), Due.INVALID);
        Due.is("P1 taskOf without tasks", x.taskOf(0, 0), Due.INVALID);
        Due.is("P1 on without tasks", x.on(0, 0), Due.INVALID);
        Due.is("P1 earns without tasks", x.earns(0, 0, 0), Due.INVALID);
        Due.is("P1 best without tasks", x.best(0, 0, 0), Due.MISSING);
    }

    private static void thereIsNoContract() {
        SandWorkers x = Due.players(1);
        x.task(1, 0, 0, 0);
        Due.is("P1 contracts", x.count(2), 0);
        Due.is("P1 buy without contracts", x.buy(0, 0), Due.INVALID);
        Due.is("P1 contractOf without contracts", x.contractOf(0, 0), Due.INVALID);
        Due.is("P1 earns without contracts", x.earns(0, 0, 0), Due.INVALID);
    }

    /** "Time is counted in seconds, from 0." */
    private static void noSecondHasPassed() {
        SandWorkers x = new SandWorkers();
        Due.is("P1 seconds", x.count(3), 0);
    }

    private static void nothingWasDone() {
        SandWorkers x = new SandWorkers();
        Due.is("P1 works", x.count(4), 0);
        Due.is("P1 flips", x.count(5), 0);
        Due.is("P1 goods lost", x.count(7), 0);
    }

    private static void noSandIsAbove() {
        SandWorkers x = new SandWorkers();
        Due.is("P1 next work", x.next(0), Due.MISSING);
        Due.is("P1 when it is done", x.next(1), Due.MISSING);
    }

    /** "There is a text .., initially empty". */
    private static void theTextIsEmpty() {
        SandWorkers x = new SandWorkers();
        Due.is("P1 length of the text", x.count(9), 0);
        Due.is("P1 fault of the empty text", x.fault(0), Due.MISSING);
        Due.is("P1 clearText", x.clearText(), 0);
    }

    private static void theHistoryIsEmpty() {
        SandWorkers x = new SandWorkers();
        Due.is("P1 states", x.count(8), 0);
        Due.is("P1 undo", x.undo(), Due.IMPOSSIBLE);
    }

    private static void objectsAreApart() {
        SandWorkers x = Due.players(1);
        x.task(1, 0, 0, 0);
        x.contract(0, 1);
        x.pass(1);
        Due.type(x, "s1;");
        SandWorkers y = new SandWorkers();
        for (int what = 0; what < 10; what++) {
            Due.is("P1 another object, count(" + what + ")", y.count(what), what == 6 ? Due.MISSING : 0);
        }
    }

    /** "An object is used for at most 512 calls": up to that one each is answered as told. */
    private static void callsUpToThe512thCount() {
        SandWorkers x = Due.players(1);
        x.task(1, 0, 1, 1);
        for (int i = 0; i < 254; i++) {
            Due.is("P1 put of the call " + (2 * i + 3), x.put(0, 0, 0), 0);
            Due.is("P1 flip of the call " + (2 * i + 4), x.flip(0, 0), 0);
        }
        Due.is("P1 the call 511", x.count(5), 254);
        Due.is("P1 the call 512", x.playerOf(0, 4), 254);
    }
}
