/** Promise 16: next. */
public final class P16NextTest {
    private P16NextTest() {
    }

    public static void main(String[] args) {
        noSuchWhat();
        notFoundIfNoSandIsAbove();
        invalidRatherThanNotFound();
        theSoonestIsNext();
        ofOnePlayerTheLowestWorker();
        ofSeveralTheLowestPlayer();
        secondsFromOneToThreeHundred();
        aFlipByHandCounts();
        isToldBeyond9999();
        changesNothing();
        Due.end();
    }

    private static SandWorkers game() {
        SandWorkers x = Due.players(3);
        x.task(3, 0, 0, 1);
        x.put(2, 1, 0);
        x.pass(1);
        x.put(1, 1, 0);
        return x;
    }

    /** "INVALID_ARGUMENT if what is out of range". */
    private static void noSuchWhat() {
        for (int what : Due.outside(0, 1)) {
            Due.looks("P16 what " + what, P16NextTest::game, x -> x.next(what), Due.INVALID);
        }
    }

    /** "NOT_FOUND if no sand is above". */
    private static void notFoundIfNoSandIsAbove() {
        for (int what = 0; what < 2; what++) {
            Due.is("P16 nobody is there", new SandWorkers().next(what), Due.MISSING);
            SandWorkers x = Due.players(1);
            Due.is("P16 all at home", x.next(what), Due.MISSING);
            x.task(1, 0, 0, 0);
            x.put(0, 0, 0);
            x.pass(29);
            Due.is("P16 a second is above", x.next(what), what);
            x.pass(1);
            Due.is("P16 none is above", x.next(what), Due.MISSING);
        }
    }

    private static void invalidRatherThanNotFound() {
        for (int what : Due.outside(0, 1)) {
            Due.is("P16 what " + what + ", no sand", new SandWorkers().next(what), Due.INVALID);
        }
    }

    private static void theSoonestIsNext() {
        SandWorkers x = game();
        Due.is("P16 59 comes ahead of 60", x.next(0), 21);
        Due.is("P16 in 59", x.next(1), 59);
        x.put(0, 2, 0);
        Due.is("P16 90 comes later", x.next(0), 21);
        x.pass(59);
        Due.is("P16 then the next, flipped from 1 to 59 or from 31 to 59", x.next(1), 59);
        Due.is("P16 of both the lowest", x.next(0), 2);
    }

    /** The one that is done first: "of one player those of the lowest worker first". */
    private static void ofOnePlayerTheLowestWorker() {
        SandWorkers x = Due.players(1);
        x.task(3, 0, 0, 0);
        for (int worker = 0; worker < 3; worker++) {
            x.size(0, worker, 40);
        }
        x.put(0, 2, 0);
        Due.is("P16 the worker 2 alone", x.next(0), 2);
        x.put(0, 1, 0);
        Due.is("P16 the worker 1 ahead of 2", x.next(0), 1);
        x.put(0, 0, 0);
        Due.is("P16 the worker 0 ahead of 1", x.next(0), 0);
    }

    /** "those of the lowest player first". */
    private static void ofSeveralTheLowestPlayer() {
        SandWorkers x = Due.players(4);
        x.task(3, 0, 0, 0);
        x.task(3, 0, 0, 0);
        int[] workers = {2, 1, 0, 0};
        for (int player = 3; player >= 0; player--) {
            x.size(player, workers[player], 40);
            x.put(player, workers[player], player % 2);
            Due.is("P16 the player " + player, x.next(0), 10 * player + workers[player]);
            Due.is("P16 all in 40", x.next(1), 40);
        }
    }

    /** "1: in how many seconds". */
    private static void secondsFromOneToThreeHundred() {
        SandWorkers x = Due.players(1);
        x.task(1, 0, 0, 0);
        x.size(0, 0, 300);
        x.put(0, 0, 0);
        Due.is("P16 in 300", x.next(1), 300);
        x.pass(299);
        Due.is("P16 in 1", x.next(1), 1);
    }

    private static void aFlipByHandCounts() {
        SandWorkers x = game();
        x.pass(9);
        // 21 has 50 of 60 above, 11 has 51.
        x.flip(1, 1);
        Due.is("P16 flipped to 9", x.next(0), 11);
        Due.is("P16 in 9", x.next(1), 9);
    }

    private static void isToldBeyond9999() {
        SandWorkers x = Due.players(1);
        x.task(1, 0, 0, 0);
        Due.pass(x, 9999);
        x.put(0, 0, 0);
        Due.is("P16 at the last second", x.next(1), 30);
    }

    private static void changesNothing() {
        Due.looks("P16 who", P16NextTest::game, x -> x.next(0), 21);
        Due.looks("P16 when", P16NextTest::game, x -> x.next(1), 59);
    }
}
