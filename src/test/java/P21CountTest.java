/** Promise 21: count. */
public final class P21CountTest {
    private P21CountTest() {
    }

    public static void main(String[] args) {
        tellsEach();
        noSuchWhat();
        playersFromNoneToFour();
        tasksFromNoneToEight();
        contractsFromNoneToSix();
        secondsFromZeroTo9999();
        worksOfAll();
        flipsByEffectsAndByHand();
        aheadNotFoundWithoutPlayers();
        aheadWithMostPoints();
        ofSeveralWithMostGoods();
        ofTheseTheLowest();
        lostAbove99();
        statesFromNoneToFour();
        lengthFromNoneToSixty();
        changesNothing();
        Due.end();
    }

    private static SandWorkers game() {
        SandWorkers x = Due.players(3);
        x.task(3, 0, 900, 1);
        x.task(3, 0, 9, 1);
        x.contract(1, 1);
        x.put(0, 0, 0);
        x.put(0, 1, 0);
        x.pass(30);
        Due.type(x, "s1;");
        return x;
    }

    private static void tellsEach() {
        SandWorkers x = game();
        int[] due = {3, 2, 1, 30, 1, 1, 0, 0, 4, 3};
        for (int what = 0; what < 10; what++) {
            Due.is("P21 count(" + what + ")", x.count(what), due[what]);
        }
    }

    /** "INVALID_ARGUMENT if what is out of range". */
    private static void noSuchWhat() {
        for (int what : Due.outside(0, 9)) {
            Due.looks("P21 what " + what, P21CountTest::game, x -> x.count(what), Due.INVALID);
        }
    }

    private static void playersFromNoneToFour() {
        SandWorkers x = new SandWorkers();
        for (int i = 0; i < 6; i++) {
            Due.is("P21 players", x.count(0), Math.min(4, i));
            x.player();
        }
    }

    private static void tasksFromNoneToEight() {
        SandWorkers x = new SandWorkers();
        for (int i = 0; i < 10; i++) {
            Due.is("P21 tasks", x.count(1), Math.min(8, i));
            x.task(1, 0, 0, 0);
        }
    }

    private static void contractsFromNoneToSix() {
        SandWorkers x = Due.players(1);
        for (int i = 0; i < 8; i++) {
            Due.is("P21 contracts", x.count(2), Math.min(6, i));
            x.contract(0, 1);
        }
        for (int i = 6; i >= 0; i--) {
            Due.is("P21 contracts less those bought", x.count(2), i);
            x.buy(0, 0);
        }
        Due.is("P21 no contracts", x.count(2), 0);
    }

    private static void secondsFromZeroTo9999() {
        SandWorkers x = new SandWorkers();
        Due.is("P21 second 0", x.count(3), 0);
        for (int i = 1; i <= 20; i++) {
            x.pass(600);
            Due.is("P21 seconds", x.count(3), Math.min(9600, 600 * i));
        }
        x.pass(399);
        Due.is("P21 second 9999", x.count(3), 9999);
        x.pass(1);
        Due.is("P21 it stays", x.count(3), 9999);
    }

    /** "4: works done so far". */
    private static void worksOfAll() {
        SandWorkers x = Due.players(4);
        x.task(3, 0, 0, 0);
        x.task(3, 0, 0, 0);
        for (int player = 0; player < 4; player++) {
            x.put(player, 2, player % 2);
            x.pass(1);
        }
        Due.is("P21 no work", x.count(4), 0);
        x.pass(86);
        Due.is("P21 one work", x.count(4), 1);
        x.pass(3);
        Due.is("P21 all works", x.count(4), 4);
    }

    /** "by effects and by hand, each worker counted". */
    private static void flipsByEffectsAndByHand() {
        SandWorkers x = Due.players(3);
        x.task(3, 0, 0, 1);
        x.put(0, 0, 0);
        x.put(1, 1, 0);
        x.put(2, 1, 0);
        x.pass(10);
        x.flip(1, 1);
        Due.is("P21 one by hand", x.count(5), 1);
        // 11 has 10 above and ends 10 seconds later, which flips 00 and 21.
        x.pass(10);
        Due.is("P21 two by the effect", x.count(5), 3);
        x.flip(1, 1);
        Due.is("P21 a refused one does not count", x.count(5), 3);
    }

    /** "NOT_FOUND for 6 if there is no player". */
    private static void aheadNotFoundWithoutPlayers() {
        SandWorkers x = new SandWorkers();
        Due.is("P21 nobody", x.count(6), Due.MISSING);
        x.player();
        Due.is("P21 the only one", x.count(6), 0);
        x.undo();
        Due.is("P21 nobody again", x.count(6), Due.MISSING);
        SandWorkers alone = Due.players(1);
        alone.task(1, 555, 0, 0);
        alone.put(0, 0, 0);
        Due.is("P21 the only one, without goods", alone.count(6), 0);
    }

    /** "the player with most points", however few goods it has. */
    private static void aheadWithMostPoints() {
        for (int player = 0; player < 4; player++) {
            SandWorkers x = Due.players(4);
            x.contract(555, 1);
            x.buy(player, 0);
            Due.is("P21 the one with a point", x.count(6), player);
            x.contract(0, 2);
            x.buy(3 - player, 0);
            Due.is("P21 the one with two points", x.count(6), 3 - player);
        }
    }

    /** "of several the one with most goods", of whatever kind. */
    private static void ofSeveralWithMostGoods() {
        for (int gain = 1; gain <= 100; gain *= 10) {
            for (int player = 0; player < 4; player++) {
                SandWorkers x = Due.players(4);
                x.task(1, 0, gain, 0);
                x.put(player, 0, 0);
                x.flip(player, 0);
                Due.is("P21 the one with " + gain + " more", x.count(6), player);
            }
        }
        SandWorkers x = Due.players(3);
        x.task(1, 0, 900, 0);
        x.put(0, 0, 0);
        x.flip(0, 0);
        x.contract(1, 1);
        x.contract(10, 1);
        x.buy(1, 0);
        x.buy(2, 0);
        Due.is("P21 goods of those with fewer points do not count", x.count(6), 1);
    }

    /** "of these the lowest": goods count all together, not one by one. */
    private static void ofTheseTheLowest() {
        SandWorkers x = Due.players(4);
        Due.is("P21 all alike", x.count(6), 0);
        x.contract(0, 1);
        x.contract(0, 1);
        x.buy(3, 0);
        x.buy(2, 0);
        Due.is("P21 two alike ahead of two", x.count(6), 2);
        SandWorkers y = Due.players(2);
        y.task(1, 100, 1, 0);
        y.put(1, 0, 0);
        y.flip(1, 0);
        Due.is("P21 one for another is as many", y.count(6), 0);
        y.task(1, 0, 1, 0);
        y.put(1, 1, 1);
        y.flip(1, 1);
        Due.is("P21 one more", y.count(6), 1);
    }

    /** "7: goods that were lost above 99 so far". */
    private static void lostAbove99() {
        SandWorkers x = Due.players(2);
        x.task(3, 0, 999, 0);
        for (int i = 0; i < 10; i++) {
            x.put(0, 0, 0);
            x.flip(0, 0);
        }
        Due.is("P21 95 of each, none lost", x.count(7), 0);
        x.task(1, 0, 400, 0);
        x.put(0, 0, 1);
        x.flip(0, 0);
        Due.is("P21 99 of the good 0, none lost", x.count(7), 0);
        x.put(0, 0, 0);
        x.flip(0, 0);
        Due.is("P21 9 and 5 and 5 are lost", x.count(7), 19);
        x.put(0, 0, 0);
        x.flip(0, 0);
        Due.is("P21 27 more", x.count(7), 46);
        for (int i = 0; i < 11; i++) {
            x.put(1, 0, 0);
            x.flip(1, 0);
        }
        Due.is("P21 5 of each of another player's", x.count(7), 61);
        x.undo();
        Due.is("P21 undo takes them back", x.count(7), 46);
    }

    /** "8: states in the history". */
    private static void statesFromNoneToFour() {
        SandWorkers x = new SandWorkers();
        for (int i = 0; i < 8; i++) {
            Due.is("P21 states", x.count(8), Math.min(4, i));
            x.pass(1);
        }
        for (int i = 4; i > 0; i--) {
            Due.is("P21 states left", x.count(8), i);
            x.undo();
        }
        Due.is("P21 none is left", x.count(8), 0);
    }

    /** "9: the length of the text". */
    private static void lengthFromNoneToSixty() {
        SandWorkers x = new SandWorkers();
        for (int i = 0; i < 63; i++) {
            Due.is("P21 length", x.count(9), Math.min(60, i));
            x.type('s');
        }
        x.clearText();
        Due.is("P21 emptied", x.count(9), 0);
    }

    private static void changesNothing() {
        for (int what = 0; what < 10; what++) {
            int which = what;
            Due.looks("P21 count(" + what + ")", P21CountTest::game, x -> x.count(which),
                    game().count(which));
        }
    }
}
