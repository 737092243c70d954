/** Promise 11: playerOf. */
public final class P11PlayerOfTest {
    private P11PlayerOfTest() {
    }

    public static void main(String[] args) {
        tellsEach();
        noSuchPlayer();
        noSuchWhat();
        goodsFromNoneTo99();
        pointsGoUpWithoutALimit();
        worksOfAllItsWorkers();
        outFromNoneToThree();
        waitingOfAllThree();
        soonestOfItsOwn();
        soonestIsASecondAtLeast();
        soonestByFlipsUntilThen();
        soonestIsToldBeyond600();
        soonestOfOthersIsNotItsOwn();
        notFoundIfNoneHasSandAbove();
        invalidRatherThanNotFound();
        soonestIsToldBeyond9999();
        changesNothing();
        Due.end();
    }

    private static SandWorkers game() {
        SandWorkers x = Due.players(2);
        x.task(3, 12, 340, 2);
        x.put(0, 0, 0);
        x.put(0, 1, 0);
        x.put(1, 0, 0);
        x.pass(45);
        return x;
    }

    private static void tellsEach() {
        SandWorkers x = game();
        int[] first = {8, 7, 1, 1, 1, 2, 60, 15};
        int[] second = {8, 8, 3, 1, 1, 3, 105, Due.MISSING};
        for (int what = 0; what < 8; what++) {
            Due.is("P11 playerOf(0, " + what + ")", x.playerOf(0, what), first[what]);
            Due.is("P11 playerOf(1, " + what + ")", x.playerOf(1, what), second[what]);
        }
    }

    /** "INVALID_ARGUMENT if an argument is out of range". */
    private static void noSuchPlayer() {
        for (int player : Due.outside(0, 1)) {
            for (int what = 0; what < 8; what++) {
                int which = what;
                Due.looks("P11 playerOf(" + player + ", " + what + ")", P11PlayerOfTest::game,
                        x -> x.playerOf(player, which), Due.INVALID);
            }
        }
    }

    private static void noSuchWhat() {
        for (int what : Due.outside(0, 7)) {
            Due.looks("P11 what " + what, P11PlayerOfTest::game, x -> x.playerOf(0, what), Due.INVALID);
        }
    }

    /** "goods (0 to 99 of each". */
    private static void goodsFromNoneTo99() {
        for (int good = 0; good < 3; good++) {
            int nine = good == 0 ? 900 : good == 1 ? 90 : 9;
            SandWorkers x = Due.players(1);
            x.task(1, nine / 9 * 5, 0, 0);
            x.task(1, 0, nine, 0);
            x.put(0, 0, 0);
            Due.is("P11 none of the good " + good, x.playerOf(0, good), 0);
            x.pass(30);
            for (int i = 1; i <= 12; i++) {
                x.put(0, 0, 1);
                x.pass(30);
                Due.is("P11 " + i + " gains of " + good, x.playerOf(0, good), Math.min(99, 9 * i));
                Due.is("P11 another good", x.playerOf(0, (good + 1) % 3), 5);
            }
        }
    }

    private static void pointsGoUpWithoutALimit() {
        SandWorkers x = Due.players(1);
        for (int i = 1; i <= 30; i++) {
            x.contract(0, 20);
            x.buy(0, 0);
            Due.is("P11 points of " + i, x.playerOf(0, 3), 20 * i);
        }
    }

    /** "4: works done so far". */
    private static void worksOfAllItsWorkers() {
        SandWorkers x = Due.players(2);
        x.task(3, 0, 0, 0);
        x.put(0, 0, 0);
        x.put(0, 1, 0);
        x.put(1, 0, 0);
        x.pass(30);
        Due.is("P11 one work", x.playerOf(0, 4), 1);
        x.put(0, 0, 0);
        x.pass(30);
        Due.is("P11 three works", x.playerOf(0, 4), 3);
        Due.is("P11 one of the other", x.playerOf(1, 4), 1);
    }

    /** "5: how many workers have their sand out", at home too. */
    private static void outFromNoneToThree() {
        SandWorkers x = Due.players(2);
        x.task(3, 0, 0, 0);
        for (int worker = 0; worker < 3; worker++) {
            Due.is("P11 out with " + worker + " put", x.playerOf(0, 5), 3 - worker);
            x.put(0, worker, 0);
        }
        Due.is("P11 none is out", x.playerOf(0, 5), 0);
        Due.is("P11 those of the other are", x.playerOf(1, 5), 3);
        for (int worker = 1; worker <= 3; worker++) {
            x.pass(29);
            Due.is("P11 a second before", x.playerOf(0, 5), worker - 1);
            x.pass(1);
            Due.is("P11 out again", x.playerOf(0, 5), worker);
        }
    }

    /** "6: the waiting of all workers together". */
    private static void waitingOfAllThree() {
        SandWorkers x = Due.players(2);
        Due.is("P11 none at first", x.playerOf(0, 6), 0);
        x.task(3, 0, 0, 0);
        x.put(0, 0, 0);
        x.put(0, 1, 0);
        x.put(0, 2, 0);
        x.pass(30);
        Due.is("P11 none waited", x.playerOf(0, 6), 0);
        Due.is("P11 all of the other did", x.playerOf(1, 6), 90);
        x.pass(1);
        Due.is("P11 one waited", x.playerOf(0, 6), 1);
        x.pass(60);
        Due.is("P11 all of them", x.playerOf(0, 6), 61 + 31 + 1);
    }

    /** "7: in how many seconds the next of its workers has its sand out". */
    private static void soonestOfItsOwn() {
        SandWorkers x = Due.players(1);
        x.task(3, 0, 0, 0);
        x.put(0, 2, 0);
        Due.is("P11 all of 90", x.playerOf(0, 7), 90);
        x.pass(20);
        x.put(0, 1, 0);
        Due.is("P11 60 comes ahead of 70", x.playerOf(0, 7), 60);
        x.put(0, 0, 0);
        Due.is("P11 30 comes ahead of both", x.playerOf(0, 7), 30);
        x.pass(30);
        Due.is("P11 then 60", x.playerOf(0, 7), 30);
        x.pass(30);
        Due.is("P11 then 90", x.playerOf(0, 7), 10);
        x.size(0, 0, 300);
        x.pass(10);
        x.put(0, 0, 0);
        Due.is("P11 all of 300", x.playerOf(0, 7), 300);
    }

    private static void soonestIsASecondAtLeast() {
        SandWorkers x = Due.players(1);
        x.task(1, 0, 0, 1);
        x.put(0, 0, 0);
        x.pass(29);
        Due.is("P11 a second", x.playerOf(0, 7), 1);
        x.flip(0, 0);
        Due.is("P11 flipped", x.playerOf(0, 7), 29);
    }

    /** "by flips that come until then, too, if nothing else is done". */
    private static void soonestByFlipsUntilThen() {
        SandWorkers x = Due.players(2);
        x.task(3, 0, 0, 1);
        x.task(3, 0, 0, 0);
        x.put(0, 2, 1);
        x.pass(1);
        x.put(1, 0, 0);
        // Behind 30 seconds 02 has 59 above; it is flipped to 31.
        Due.is("P11 later than its sand says", x.playerOf(0, 7), 61);
        x.size(0, 0, 300);
        x.put(0, 0, 1);
        // Behind 30 seconds 00 has 270 above; it is flipped to 30.
        Due.is("P11 sooner than its sand says", x.playerOf(0, 7), 60);
        // A flip that comes with the last second comes too late.
        SandWorkers y = Due.players(2);
        y.task(3, 0, 0, 1);
        y.put(0, 0, 0);
        y.put(1, 0, 0);
        Due.is("P11 both end at once", y.playerOf(0, 7), 30);
        // Its own flips do not stop what it is asked for.
        SandWorkers z = Due.players(1);
        z.task(3, 0, 0, 1);
        z.put(0, 0, 0);
        z.put(0, 1, 0);
        Due.is("P11 its own first", z.playerOf(0, 7), 30);
    }

    /** 00 is flipped at 295 from 7 to 293 by 10, and at 586 from 2 to 298 by 11: it ends at 884. */
    private static void soonestIsToldBeyond600() {
        SandWorkers x = Due.players(2);
        x.task(3, 0, 0, 0);
        x.task(3, 0, 0, 1);
        x.size(0, 0, 300);
        x.size(1, 0, 295);
        x.size(1, 1, 300);
        x.put(1, 0, 1);
        x.pass(2);
        x.put(0, 0, 0);
        x.pass(2);
        x.put(1, 1, 1);
        Due.is("P11 from second 4 to 884", x.playerOf(0, 7), 880);
        x.pass(600);
        Due.is("P11 from second 604 to 884", x.playerOf(0, 7), 280);
    }

    private static void soonestOfOthersIsNotItsOwn() {
        SandWorkers x = Due.players(3);
        x.task(3, 0, 0, 0);
        x.put(0, 0, 0);
        x.put(1, 1, 0);
        x.put(2, 0, 0);
        Due.is("P11 of the player 0", x.playerOf(0, 7), 30);
        Due.is("P11 of the player 1", x.playerOf(1, 7), 60);
        Due.is("P11 of the player 2", x.playerOf(2, 7), 30);
    }

    /** "NOT_FOUND for 7 if none has sand above". */
    private static void notFoundIfNoneHasSandAbove() {
        SandWorkers x = Due.players(2);
        Due.is("P11 all at home", x.playerOf(0, 7), Due.MISSING);
        x.task(3, 0, 0, 0);
        x.put(1, 0, 0);
        Due.is("P11 another's has", x.playerOf(0, 7), Due.MISSING);
        x.put(0, 0, 0);
        x.pass(30);
        Due.is("P11 out on a task", x.playerOf(0, 7), Due.MISSING);
        Due.is("P11 the number ahead is found", x.playerOf(0, 6), 60);
    }

    private static void invalidRatherThanNotFound() {
        SandWorkers x = Due.players(1);
        Due.is("P11 no player, no sand", x.playerOf(1, 7), Due.INVALID);
        Due.is("P11 no number, no sand", x.playerOf(0, 8), Due.INVALID);
    }

    private static void soonestIsToldBeyond9999() {
        SandWorkers x = Due.players(1);
        x.task(1, 0, 0, 0);
        Due.pass(x, 9999);
        x.put(0, 2, 0);
        Due.is("P11 at the last second", x.playerOf(0, 7), 90);
    }

    private static void changesNothing() {
        Due.looks("P11 how soon", P11PlayerOfTest::game, x -> x.playerOf(0, 7), 15);
        Due.looks("P11 not found", P11PlayerOfTest::game, x -> x.playerOf(1, 7), Due.MISSING);
    }
}
