/** Promise 20: busy. */
public final class P20BusyTest {
    private P20BusyTest() {
    }

    public static void main(String[] args) {
        noSuchPlayer();
        noSuchWorker();
        notFoundAtTheSecondZero();
        invalidRatherThanNotFound();
        noneIsTheFloatZero();
        allIsTheFloatOne();
        theSmallestShare();
        theGreatestShareBelowOne();
        sharesAreRoundedAsFloats();
        sinceTheGameBegan();
        undoGivesNotFoundBack();
        changesNothing();
        Due.end();
    }

    private static SandWorkers game() {
        SandWorkers x = Due.players(2);
        x.task(3, 0, 0, 0);
        x.put(0, 0, 0);
        x.pass(45);
        return x;
    }

    private static int bits(int worked, int seconds) {
        return Float.floatToIntBits((float) worked / (float) seconds);
    }

    /** "INVALID_ARGUMENT": no such player, no such worker. */
    private static void noSuchPlayer() {
        for (int player : Due.outside(0, 1)) {
            Due.looks("P20 player " + player, P20BusyTest::game, x -> x.busy(player, 0), Due.INVALID);
        }
    }

    private static void noSuchWorker() {
        for (int worker : Due.outside(0, 2)) {
            Due.looks("P20 worker " + worker, P20BusyTest::game, x -> x.busy(0, worker), Due.INVALID);
        }
    }

    /** "NOT_FOUND if no second has passed". */
    private static void notFoundAtTheSecondZero() {
        SandWorkers x = Due.players(1);
        x.task(1, 0, 0, 0);
        Due.is("P20 at home", x.busy(0, 0), Due.MISSING);
        x.put(0, 0, 0);
        Due.is("P20 on a task", x.busy(0, 0), Due.MISSING);
        x.flip(0, 0);
        Due.is("P20 with a work done", x.busy(0, 0), Due.MISSING);
        x.pass(1);
        Due.is("P20 behind a second", x.busy(0, 0), 0);
    }

    private static void invalidRatherThanNotFound() {
        SandWorkers x = Due.players(1);
        Due.is("P20 no player, no second", x.busy(1, 0), Due.INVALID);
        Due.is("P20 no worker, no second", x.busy(0, 3), Due.INVALID);
    }

    private static void noneIsTheFloatZero() {
        SandWorkers x = Due.players(1);
        x.pass(1);
        Due.is("P20 0 of 1", x.busy(0, 2), Float.floatToIntBits(0f));
        Due.pass(x, 9998);
        Due.is("P20 0 of 9999", x.busy(0, 2), Float.floatToIntBits(0f));
    }

    private static void allIsTheFloatOne() {
        SandWorkers x = Due.players(1);
        x.task(1, 0, 0, 0);
        x.put(0, 2, 0);
        for (int second = 1; second <= 90; second++) {
            x.pass(1);
            Due.is("P20 " + second + " of " + second, x.busy(0, 2), Float.floatToIntBits(1f));
        }
        x.pass(1);
        Due.is("P20 90 of 91", x.busy(0, 2), bits(90, 91));
    }

    private static void theSmallestShare() {
        SandWorkers x = Due.players(1);
        x.task(1, 0, 0, 0);
        Due.pass(x, 9998);
        x.put(0, 0, 0);
        x.pass(1);
        Due.is("P20 1 of 9999", x.busy(0, 0), bits(1, 9999));
    }

    private static void theGreatestShareBelowOne() {
        SandWorkers x = Due.players(1);
        x.task(1, 0, 0, 0);
        x.size(0, 0, 300);
        x.pass(1);
        for (int i = 0; i < 33; i++) {
            x.put(0, 0, 0);
            x.pass(300);
        }
        x.put(0, 0, 0);
        x.pass(98);
        Due.is("P20 9998 of 9999", x.busy(0, 0), bits(9998, 9999));
        Due.is("P20 0 of 9999 beside it", x.busy(0, 1), 0);
    }

    /** "as a float, divided by .., as a float": all shares of up to 60 seconds, and long ones. */
    private static void sharesAreRoundedAsFloats() {
        for (int worked = 5; worked <= 60; worked++) {
            SandWorkers x = Due.players(1);
            x.task(1, 0, 0, 0);
            x.size(0, 0, worked);
            x.put(0, 0, 0);
            x.pass(worked);
            for (int seconds = worked; seconds <= 60; seconds++) {
                Due.is("P20 " + worked + " of " + seconds, x.busy(0, 0), bits(worked, seconds));
                x.pass(1);
            }
        }
        for (int worked = 7; worked < 300; worked += 29) {
            SandWorkers x = Due.players(1);
            x.task(1, 0, 0, 0);
            x.size(0, 1, worked);
            x.put(0, 1, 0);
            x.pass(300);
            int seconds = 300;
            while (seconds + 43 <= 9999) {
                Due.is("P20 " + worked + " of " + seconds, x.busy(0, 1), bits(worked, seconds));
                x.pass(43);
                seconds += 43;
            }
        }
    }

    /** "the seconds so far" are those of the game, of which those before it came are no waiting. */
    private static void sinceTheGameBegan() {
        SandWorkers x = new SandWorkers();
        x.pass(3);
        x.player();
        Due.is("P20 it just came", x.busy(0, 0), Float.floatToIntBits(1f));
        x.pass(4);
        Due.is("P20 3 of 7", x.busy(0, 0), bits(3, 7));
    }

    private static void undoGivesNotFoundBack() {
        SandWorkers x = Due.players(1);
        x.pass(1);
        x.undo();
        Due.is("P20 no second has passed again", x.busy(0, 0), Due.MISSING);
    }

    private static void changesNothing() {
        Due.looks("P20 a share", P20BusyTest::game, x -> x.busy(0, 0), bits(30, 45));
    }
}
