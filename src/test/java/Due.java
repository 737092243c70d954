import java.util.function.Supplier;
import java.util.function.ToIntFunction;

/** Compares answers with those that are due, and counts. */
final class Due {
    static final int INVALID = -1000001;
    static final int IMPOSSIBLE = -1000002;
    static final int LIMIT = -1000003;
    static final int MISSING = -1000004;

    private static int passed = 0;
    private static int failed = 0;

    private Due() {
    }

    static void is(String call, long got, long want) {
        if (got == want) {
            passed++;
        } else {
            failed++;
            System.out.println(call + " answered " + got + ", due is " + want);
        }
    }

    static void isTrue(String what, boolean holds) {
        is(what, holds ? 1 : 0, 1);
    }

    /** A refused call answers with its code, and leaves a game that is like one without the call. */
    static void refused(String call, Supplier<SandWorkers> game, ToIntFunction<SandWorkers> refused,
            int code) {
        SandWorkers with = game.get();
        SandWorkers without = game.get();
        is(call, refused.applyAsInt(with), code);
        alike(call + ", refused", with, without);
    }

    /** A look answers with a number, and leaves a game that is like one without the call. */
    static void looks(String call, Supplier<SandWorkers> game, ToIntFunction<SandWorkers> look,
            int want) {
        refused(call, game, look, want);
    }

    /** Both games answer all that can be asked alike, now and behind each undo. */
    static void alike(String name, SandWorkers x, SandWorkers y) {
        alikeNow(name, x, y);
        for (int i = 0; i < 4; i++) {
            is(name + ": undo " + i, x.undo(), y.undo());
            for (int what = 0; what < 10; what++) {
                is(name + ": behind undo " + i + " count(" + what + ")", x.count(what), y.count(what));
            }
            for (int player = 0; player < y.count(0); player++) {
                for (int what = 0; what < 7; what++) {
                    is(name + ": behind undo " + i + " playerOf(" + player + ", " + what + ")",
                            x.playerOf(player, what), y.playerOf(player, what));
                }
            }
        }
    }

    /** Both games answer all that can be asked alike. */
    static void alikeNow(String name, SandWorkers x, SandWorkers y) {
        for (int what = 0; what < 10; what++) {
            is(name + ": count(" + what + ")", x.count(what), y.count(what));
        }
        for (int what = 0; what < 3; what++) {
            is(name + ": fault(" + what + ")", x.fault(what), y.fault(what));
            is(name + ": next(" + what + ")", x.next(what), y.next(what));
        }
        int players = y.count(0);
        int tasks = y.count(1);
        int contracts = y.count(2);
        for (int player = 0; player < players; player++) {
            for (int what = 0; what < 8; what++) {
                is(name + ": playerOf(" + player + ", " + what + ")",
                        x.playerOf(player, what), y.playerOf(player, what));
            }
            for (int worker = 0; worker < 3; worker++) {
                for (int what = 0; what < 6; what++) {
                    is(name + ": workerOf(" + player + ", " + worker + ", " + what + ")",
                            x.workerOf(player, worker, what), y.workerOf(player, worker, what));
                }
            }
        }
        for (int task = 0; task < tasks; task++) {
            for (int what = 0; what < 6; what++) {
                is(name + ": taskOf(" + task + ", " + what + ")", x.taskOf(task, what), y.taskOf(task, what));
            }
            for (int place = 0; place < 3; place++) {
                is(name + ": on(" + task + ", " + place + ")", x.on(task, place), y.on(task, place));
            }
        }
        for (int contract = 0; contract < contracts; contract++) {
            for (int what = 0; what < 3; what++) {
                is(name + ": contractOf(" + contract + ", " + what + ")",
                        x.contractOf(contract, what), y.contractOf(contract, what));
            }
        }
    }

    /** The values just outside of a range, and the farthest ones. */
    static int[] outside(int least, int most) {
        return new int[] {Integer.MIN_VALUE, least - 1, most + 1, Integer.MAX_VALUE};
    }

    /** Types a text behind what is there. */
    static void type(SandWorkers x, String text) {
        for (int i = 0; i < text.length(); i++) {
            x.type(text.charAt(i));
        }
    }

    /** A game with this many players. */
    static SandWorkers players(int number) {
        SandWorkers x = new SandWorkers();
        for (int i = 0; i < number; i++) {
            x.player();
        }
        return x;
    }

    /** Lets any number of seconds pass. */
    static void pass(SandWorkers x, int seconds) {
        int left = seconds;
        while (left > 0) {
            int step = Math.min(600, left);
            x.pass(step);
            left -= step;
        }
    }

    /** Tells how a file of tests ended. */
    static void end() {
        System.out.println(passed + " passed, " + failed + " failed");
        if (failed != 0) {
            System.exit(1);
        }
    }

    static int failures() {
        return failed;
    }
}
