/** Promise 15: contractOf. */
public final class P15ContractOfTest {
    private P15ContractOfTest() {
    }

    public static void main(String[] args) {
        tellsEach();
        noSuchContract();
        noSuchWhat();
        nobodyIsThere();
        nobodyHasThePrice();
        allHaveThePrice();
        aBitForEachPlayer();
        eachGoodMustBeThere();
        Due.end();
    }

    private static SandWorkers game() {
        SandWorkers x = Due.players(4);
        x.contract(555, 4);
        x.contract(0, 20);
        x.contract(600, 1);
        x.contract(15, 2);
        return x;
    }

    private static void tellsEach() {
        SandWorkers x = game();
        int[] prices = {555, 0, 600, 15};
        int[] points = {4, 20, 1, 2};
        int[] sets = {15, 15, 0, 15};
        for (int i = 0; i < 4; i++) {
            Due.is("P15 price of " + i, x.contractOf(i, 0), prices[i]);
            Due.is("P15 points of " + i, x.contractOf(i, 1), points[i]);
            Due.is("P15 who has the price of " + i, x.contractOf(i, 2), sets[i]);
        }
    }

    /** "INVALID_ARGUMENT if an argument is out of range". */
    private static void noSuchContract() {
        for (int contract : Due.outside(0, 3)) {
            for (int what = 0; what < 3; what++) {
                int which = what;
                Due.looks("P15 contractOf(" + contract + ", " + what + ")", P15ContractOfTest::game,
                        x -> x.contractOf(contract, which), Due.INVALID);
            }
        }
    }

    private static void noSuchWhat() {
        for (int what : Due.outside(0, 2)) {
            Due.looks("P15 what " + what, P15ContractOfTest::game, x -> x.contractOf(0, what), Due.INVALID);
        }
    }

    private static void nobodyIsThere() {
        SandWorkers x = new SandWorkers();
        x.contract(0, 1);
        Due.is("P15 no players", x.contractOf(0, 2), 0);
    }

    private static void nobodyHasThePrice() {
        SandWorkers x = game();
        Due.is("P15 nobody", x.contractOf(2, 2), 0);
    }

    /** "the players who have the price": those that are there. */
    private static void allHaveThePrice() {
        for (int players = 0; players <= 4; players++) {
            SandWorkers x = Due.players(players);
            x.contract(0, 1);
            x.contract(555, 1);
            Due.is("P15 the price 0 with " + players, x.contractOf(0, 2), (1 << players) - 1);
            Due.is("P15 the price 555 with " + players, x.contractOf(1, 2), (1 << players) - 1);
        }
    }

    /** "bit k for the player k". */
    private static void aBitForEachPlayer() {
        for (int player = 0; player < 4; player++) {
            SandWorkers x = game();
            x.buy(player, 3);
            Due.is("P15 all but " + player, x.contractOf(0, 2), 15 - (1 << player));
            Due.is("P15 the price 0 for all", x.contractOf(1, 2), 15);
        }
    }

    private static void eachGoodMustBeThere() {
        int[] lacking = {600, 60, 6, 655, 565, 556};
        SandWorkers x = Due.players(2);
        for (int i = 0; i < 6; i++) {
            x.contract(lacking[i], 1);
        }
        for (int i = 0; i < 6; i++) {
            Due.is("P15 nobody has " + lacking[i], x.contractOf(i, 2), 0);
        }
    }
}
