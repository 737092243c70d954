/** Promise 5: contract. */
public final class P05ContractTest {
    private P05ContractTest() {
    }

    public static void main(String[] args) {
        numbersGoUpFromZero();
        aSeventhIsRefused();
        aBoughtOneMakesRoom();
        undoMakesRoomForAnother();
        pricesFromNoneToAll();
        pricesOutside();
        pointsFromOneToTwenty();
        pointsOutside();
        invalidRatherThanTheLimit();
        theNumberBehindTheLastIsNone();
        Due.end();
    }

    private static SandWorkers contracts(int number) {
        SandWorkers x = Due.players(1);
        for (int i = 0; i < number; i++) {
            x.contract(100 + i, 1 + i);
        }
        return x;
    }

    /** "There are at most 6 contracts, numbered from 0 in the order in which they were laid". */
    private static void numbersGoUpFromZero() {
        SandWorkers x = new SandWorkers();
        for (int i = 0; i < 6; i++) {
            Due.is("P5 contract " + i, x.contract(900 - i, 20 - i), i);
            Due.is("P5 contracts", x.count(2), i + 1);
        }
        for (int i = 0; i < 6; i++) {
            Due.is("P5 price of " + i, x.contractOf(i, 0), 900 - i);
            Due.is("P5 points of " + i, x.contractOf(i, 1), 20 - i);
        }
    }

    /** "LIMIT_REACHED if there are 6". */
    private static void aSeventhIsRefused() {
        Due.refused("P5 a seventh", () -> contracts(6), x -> x.contract(0, 1), Due.LIMIT);
        SandWorkers x = contracts(6);
        for (int i = 0; i < 3; i++) {
            Due.is("P5 a seventh, again", x.contract(999, 20), Due.LIMIT);
        }
        Due.is("P5 they stay 6", x.count(2), 6);
        Due.is("P5 no contract 6", x.contractOf(6, 0), Due.INVALID);
    }

    private static void aBoughtOneMakesRoom() {
        for (int bought = 0; bought < 6; bought++) {
            SandWorkers x = contracts(6);
            x.buy(0, bought);
            Due.is("P5 behind the last, " + bought + " bought", x.contract(7, 8), 5);
            Due.is("P5 its price, " + bought + " bought", x.contractOf(5, 0), 7);
            Due.is("P5 no seventh, " + bought + " bought", x.contract(7, 8), Due.LIMIT);
        }
    }

    private static void undoMakesRoomForAnother() {
        SandWorkers x = contracts(6);
        x.undo();
        Due.is("P5 the sixth is undone", x.contractOf(5, 0), Due.INVALID);
        Due.is("P5 a sixth again", x.contract(0, 1), 5);
        Due.is("P5 no seventh", x.contract(0, 1), Due.LIMIT);
    }

    /** "price: 0 to 999". */
    private static void pricesFromNoneToAll() {
        SandWorkers x = new SandWorkers();
        int[] prices = {0, 1, 10, 100, 998, 999};
        for (int i = 0; i < prices.length; i++) {
            Due.is("P5 price " + prices[i], x.contract(prices[i], 1), i);
            Due.is("P5 its price " + prices[i], x.contractOf(i, 0), prices[i]);
        }
    }

    private static void pricesOutside() {
        for (int price : Due.outside(0, 999)) {
            Due.refused("P5 price " + price, () -> contracts(2), x -> x.contract(price, 1), Due.INVALID);
        }
    }

    /** "points: 1 to 20". */
    private static void pointsFromOneToTwenty() {
        SandWorkers x = new SandWorkers();
        int[] points = {1, 2, 19, 20};
        for (int i = 0; i < points.length; i++) {
            Due.is("P5 points " + points[i], x.contract(0, points[i]), i);
            Due.is("P5 its points " + points[i], x.contractOf(i, 1), points[i]);
        }
    }

    private static void pointsOutside() {
        for (int points : Due.outside(1, 20)) {
            Due.refused("P5 points " + points, () -> contracts(2), x -> x.contract(0, points), Due.INVALID);
        }
    }

    /** "INVALID_ARGUMENT is returned rather than .. LIMIT_REACHED". */
    private static void invalidRatherThanTheLimit() {
        for (int price : Due.outside(0, 999)) {
            Due.refused("P5 a seventh, price " + price, () -> contracts(6), x -> x.contract(price, 1),
                    Due.INVALID);
        }
        for (int points : Due.outside(1, 20)) {
            Due.refused("P5 a seventh, points " + points, () -> contracts(6), x -> x.contract(0, points),
                    Due.INVALID);
        }
    }

    /** "If there is no .. contract with a certain number, this is INVALID_ARGUMENT." */
    private static void theNumberBehindTheLastIsNone() {
        for (int contracts = 0; contracts <= 6; contracts++) {
            SandWorkers x = contracts(contracts);
            for (int number = -1; number <= 7; number++) {
                boolean there = number >= 0 && number < contracts;
                Due.is("P5 contract " + number + " of " + contracts,
                        x.contractOf(number, 0), there ? 100 + number : Due.INVALID);
            }
        }
    }
}
