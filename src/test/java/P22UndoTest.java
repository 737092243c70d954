import java.util.function.ToIntFunction;

/** Promise 22: undo. */
public final class P22UndoTest {
    private P22UndoTest() {
    }

    public static void main(String[] args) {
        notPossibleIfItIsEmpty();
        notPossibleAgainOnceItIsEmpty();
        tellsHowManyAreLeft();
        aFifthDropsTheOldest();
        undoneOnesMakeRoom();
        eachChangeIsUndone();
        refusedCallsAreNotRecorded();
        looksAndTextsAreNotRecorded();
        undoIsNotRecorded();
        theTextIsNotRecorded();
        theOrderOfContractsComesBack();
        Due.end();
    }

    /** 00 runs, 01 is out on the task, 02 at home; two states are kept. */
    private static SandWorkers game() {
        SandWorkers x = Due.players(2);
        x.task(3, 100, 234, 1);
        x.contract(1, 2);
        x.contract(20, 3);
        x.size(0, 1, 5);
        x.put(0, 1, 0);
        x.put(1, 2, 0);
        x.pass(5);
        x.put(0, 0, 0);
        Due.type(x, "s5;h0,1;c1,1;");
        x.undo();
        x.undo();
        x.pass(6);
        x.undo();
        x.put(1, 1, 0);
        x.undo();
        return x;
    }

    private static SandWorkers ready() {
        SandWorkers x = game();
        x.pass(5);
        return x;
    }

    /** "NOT_POSSIBLE if it is empty". */
    private static void notPossibleIfItIsEmpty() {
        SandWorkers x = new SandWorkers();
        Due.is("P22 a new object", x.undo(), Due.IMPOSSIBLE);
        Due.is("P22 nothing changes", x.count(0), 0);
        Due.type(x, "s1;");
        Due.is("P22 typing fills none in", x.undo(), Due.IMPOSSIBLE);
        Due.is("P22 the text is there", x.count(9), 3);
    }

    private static void notPossibleAgainOnceItIsEmpty() {
        Due.refused("P22 all undone", () -> {
            SandWorkers x = Due.players(2);
            x.undo();
            x.undo();
            return x;
        }, x -> x.undo(), Due.IMPOSSIBLE);
        Due.refused("P22 all four undone", () -> {
            SandWorkers x = Due.players(4);
            x.pass(7);
            x.pass(8);
            for (int i = 0; i < 4; i++) {
                x.undo();
            }
            return x;
        }, x -> x.undo(), Due.IMPOSSIBLE);
    }

    /** "Returns the number of states that are left in the history". */
    private static void tellsHowManyAreLeft() {
        for (int changes = 1; changes <= 6; changes++) {
            SandWorkers x = new SandWorkers();
            for (int i = 0; i < changes; i++) {
                x.pass(1);
            }
            for (int left = Math.min(4, changes) - 1; left >= 0; left--) {
                Due.is("P22 left of " + changes, x.undo(), left);
                Due.is("P22 states of " + changes, x.count(8), left);
            }
            Due.is("P22 empty behind " + changes, x.undo(), Due.IMPOSSIBLE);
        }
    }

    /** "if there are 5 states then, the oldest one is dropped". */
    private static void aFifthDropsTheOldest() {
        for (int changes = 4; changes <= 10; changes++) {
            SandWorkers x = new SandWorkers();
            int second = 0;
            for (int i = 1; i <= changes; i++) {
                x.pass(i);
                second += i;
            }
            for (int i = changes; i > changes - 4; i--) {
                x.undo();
                second -= i;
                Due.is("P22 second behind undo of " + i, x.count(3), second);
            }
            Due.is("P22 no fifth of " + changes, x.undo(), Due.IMPOSSIBLE);
            Due.is("P22 the second stays", x.count(3), second);
        }
    }

    private static void undoneOnesMakeRoom() {
        SandWorkers x = new SandWorkers();
        for (int i = 1; i <= 5; i++) {
            x.pass(i);
        }
        x.undo();
        x.undo();
        x.pass(100);
        x.pass(200);
        Due.is("P22 four again", x.count(8), 4);
        int[] seconds = {106, 6, 3, 1};
        for (int i = 0; i < 4; i++) {
            Due.is("P22 left", x.undo(), 3 - i);
            Due.is("P22 second", x.count(3), seconds[i]);
        }
    }

    /** "each change records everything before it": a change and its undo leave no trace. */
    private static void eachChangeIsUndone() {
        undone("player", x -> x.player());
        undone("size", x -> x.size(0, 2, 77));
        undone("task", x -> x.task(2, 3, 4, 1));
        undone("contract", x -> x.contract(5, 6));
        undone("put", x -> x.put(0, 2, 0));
        undone("put once more", x -> x.put(0, 1, 0));
        undone("home", x -> x.home(0, 1));
        undone("flip", x -> x.flip(1, 2));
        undone("buy", x -> x.buy(1, 0));
        undone("pass", x -> x.pass(600));
        undone("play", x -> x.play());
    }

    private static void undone(String name, ToIntFunction<SandWorkers> change) {
        SandWorkers x = ready();
        int states = x.count(8);
        Due.isTrue("P22 " + name + " is a change", change.applyAsInt(x) >= 0);
        Due.is("P22 " + name + " is recorded", x.count(8), states + 1);
        Due.is("P22 undo of " + name, x.undo(), states);
        Due.alike("P22 " + name + " undone", x, ready());
    }

    /** "calls .. that return no error". */
    private static void refusedCallsAreNotRecorded() {
        SandWorkers x = ready();
        int states = x.count(8);
        int[] answers = {x.size(0, 0, 4), x.task(0, 0, 0, 0), x.contract(0, 0), x.put(0, 1, 1),
            x.home(0, 2), x.flip(0, 1), x.buy(0, 2), x.pass(0), x.put(1, 2, 0)};
        for (int i = 0; i < answers.length; i++) {
            Due.isTrue("P22 refused " + i, answers[i] < 0);
        }
        x.type('x');
        Due.is("P22 a play with a fault", x.play(), Due.IMPOSSIBLE);
        Due.is("P22 none is recorded", x.count(8), states);
        SandWorkers full = Due.players(4);
        Due.is("P22 a fifth player", full.player(), Due.LIMIT);
        Due.is("P22 the fourth is undone first", full.undo(), 3);
        Due.is("P22 three are left", full.count(0), 3);
    }

    private static void looksAndTextsAreNotRecorded() {
        SandWorkers x = ready();
        int states = x.count(8);
        x.playerOf(0, 7);
        x.workerOf(0, 0, 0);
        x.taskOf(0, 0);
        x.on(0, 0);
        x.contractOf(0, 2);
        x.next(0);
        x.would(0, 600, 0);
        x.best(0, 0, 0);
        x.earns(0, 0, 0);
        x.busy(0, 0);
        x.count(8);
        x.type('s');
        x.fault(0);
        x.clearText();
        Due.is("P22 none is recorded", x.count(8), states);
    }

    /** Undo is no change: what is undone is gone. */
    private static void undoIsNotRecorded() {
        SandWorkers x = new SandWorkers();
        x.pass(1);
        x.pass(2);
        x.undo();
        Due.is("P22 one is left", x.count(8), 1);
        Due.is("P22 the one before", x.undo(), 0);
        Due.is("P22 second 0", x.count(3), 0);
    }

    /** "records everything before it but the text". */
    private static void theTextIsNotRecorded() {
        SandWorkers x = new SandWorkers();
        Due.type(x, "s1;");
        x.play();
        Due.type(x, "s2;");
        x.play();
        x.clearText();
        Due.type(x, "s3;s4;");
        x.undo();
        Due.is("P22 the text stays", x.count(9), 6);
        Due.is("P22 the second is that before", x.count(3), 1);
        x.undo();
        Due.is("P22 the text still stays", x.count(9), 6);
        Due.is("P22 and can be done", x.play(), 2);
        Due.is("P22 it is what was typed last", x.count(3), 7);
    }

    private static void theOrderOfContractsComesBack() {
        SandWorkers x = Due.players(1);
        for (int i = 0; i < 6; i++) {
            x.contract(i, 1 + i);
        }
        x.buy(0, 2);
        x.buy(0, 0);
        x.undo();
        x.undo();
        for (int i = 0; i < 6; i++) {
            Due.is("P22 price of " + i, x.contractOf(i, 0), i);
            Due.is("P22 points of " + i, x.contractOf(i, 1), 1 + i);
        }
        Due.is("P22 points of the player", x.playerOf(0, 3), 0);
    }
}
