/** Promise 9: buy. */
public final class P09BuyTest {
    private P09BuyTest() {
    }

    public static void main(String[] args) {
        tellsThePointsThen();
        thePriceIsPaid();
        theExactPriceIsEnough();
        aGoodThatLacksOneIsNotThePrice();
        aPriceOfNothingIsAlwaysThere();
        whatIsGainedLaterDoesNotPay();
        whatIsBoughtIsGone();
        thoseBehindMoveUp();
        theLastOfAllIsGone();
        noSuchPlayer();
        noSuchContract();
        invalidRatherThanNotPossible();
        Due.end();
    }

    private static SandWorkers game() {
        SandWorkers x = Due.players(2);
        x.contract(555, 20);
        x.contract(600, 7);
        x.contract(123, 3);
        return x;
    }

    /** "Returns the points of the player then". */
    private static void tellsThePointsThen() {
        SandWorkers x = Due.players(2);
        x.contract(0, 1);
        x.contract(0, 20);
        x.contract(0, 20);
        Due.is("P9 the first point", x.buy(1, 0), 1);
        Due.is("P9 20 more", x.buy(1, 1), 21);
        Due.is("P9 the other has its own", x.buy(0, 0), 20);
        Due.is("P9 points", x.playerOf(1, 3), 21);
    }

    private static void thePriceIsPaid() {
        SandWorkers x = game();
        x.buy(1, 2);
        Due.is("P9 paid of the good 0", x.playerOf(1, 0), 4);
        Due.is("P9 paid of the good 1", x.playerOf(1, 1), 3);
        Due.is("P9 paid of the good 2", x.playerOf(1, 2), 2);
        for (int good = 0; good < 3; good++) {
            Due.is("P9 the other pays nothing", x.playerOf(0, good), 5);
        }
    }

    private static void theExactPriceIsEnough() {
        SandWorkers x = game();
        Due.is("P9 all there is", x.buy(0, 0), 20);
        for (int good = 0; good < 3; good++) {
            Due.is("P9 nothing is left", x.playerOf(0, good), 0);
        }
    }

    /** "NOT_POSSIBLE if the player has not the price". */
    private static void aGoodThatLacksOneIsNotThePrice() {
        for (int price : new int[] {600, 60, 6, 655, 565, 556, 999}) {
            Due.refused("P9 price " + price, () -> {
                SandWorkers x = Due.players(2);
                x.contract(0, 1);
                x.contract(price, 1);
                return x;
            }, x -> x.buy(1, 1), Due.IMPOSSIBLE);
        }
    }

    private static void aPriceOfNothingIsAlwaysThere() {
        SandWorkers x = Due.players(1);
        x.contract(555, 1);
        x.contract(0, 1);
        x.contract(1, 1);
        x.buy(0, 0);
        Due.is("P9 no price without goods", x.buy(0, 0), 2);
        Due.is("P9 a price without goods", x.buy(0, 0), Due.IMPOSSIBLE);
    }

    /** A look ahead told that the price would be there; it is not there yet. */
    private static void whatIsGainedLaterDoesNotPay() {
        SandWorkers x = Due.players(1);
        x.task(1, 0, 100, 0);
        x.contract(600, 1);
        x.put(0, 0, 0);
        Due.is("P9 the good is gained at 30", x.would(0, 30, 0), 6);
        Due.is("P9 it does not pay at 0", x.buy(0, 0), Due.IMPOSSIBLE);
        x.pass(29);
        Due.is("P9 it is a second ahead", x.would(0, 1, 0), 6);
        Due.is("P9 it does not pay at 29", x.buy(0, 0), Due.IMPOSSIBLE);
        x.pass(1);
        Due.is("P9 it pays at 30", x.buy(0, 0), 1);
    }

    /** "a contract that is bought is gone". */
    private static void whatIsBoughtIsGone() {
        SandWorkers x = game();
        x.buy(0, 2);
        Due.is("P9 two are left", x.count(2), 2);
        Due.is("P9 the number is none", x.contractOf(2, 0), Due.INVALID);
        Due.is("P9 it cannot be bought again", x.buy(1, 2), Due.INVALID);
    }

    /** "those behind it have numbers that are less by 1": for each that can be bought of six. */
    private static void thoseBehindMoveUp() {
        for (int bought = 0; bought < 6; bought++) {
            SandWorkers x = Due.players(1);
            for (int i = 0; i < 6; i++) {
                x.contract(i, 10 + i);
            }
            x.buy(0, bought);
            Due.is("P9 five are left", x.count(2), 5);
            for (int i = 0; i < 5; i++) {
                int was = i < bought ? i : i + 1;
                Due.is("P9 price of " + i + ", " + bought + " bought", x.contractOf(i, 0), was);
                Due.is("P9 points of " + i + ", " + bought + " bought", x.contractOf(i, 1), 10 + was);
            }
            Due.is("P9 no contract 5, " + bought + " bought", x.contractOf(5, 0), Due.INVALID);
        }
    }

    private static void theLastOfAllIsGone() {
        SandWorkers x = Due.players(1);
        x.contract(0, 1);
        x.buy(0, 0);
        Due.is("P9 none is left", x.count(2), 0);
        Due.is("P9 none to buy", x.buy(0, 0), Due.INVALID);
        Due.is("P9 the next is the first again", x.contract(1, 2), 0);
    }

    private static void noSuchPlayer() {
        for (int player : Due.outside(0, 1)) {
            Due.refused("P9 player " + player, P09BuyTest::game, x -> x.buy(player, 0), Due.INVALID);
        }
    }

    private static void noSuchContract() {
        for (int contract : Due.outside(0, 2)) {
            Due.refused("P9 contract " + contract, P09BuyTest::game, x -> x.buy(0, contract), Due.INVALID);
        }
    }

    private static void invalidRatherThanNotPossible() {
        for (int player : Due.outside(0, 1)) {
            Due.refused("P9 no player, a price too high", P09BuyTest::game, x -> x.buy(player, 1),
                    Due.INVALID);
        }
    }
}
