/** Promise 2: player. */
public final class P02PlayerTest {
    private P02PlayerTest() {
    }

    public static void main(String[] args) {
        numbersGoUpFromZero();
        aFifthIsRefused();
        undoMakesRoomForAnother();
        goodsAreFiveEachAtFirst();
        pointsAreNoneAtFirst();
        workersAreThreeWithTheirSizes();
        workersAreAtHomeAtFirst();
        theNumberBehindTheLastIsNone();
        waitingBeginsWhenItComes();
        thoseThatAreThereStayAsTheyAre();
        Due.end();
    }

    /** "There are at most 4 players, numbered from 0". */
    private static void numbersGoUpFromZero() {
        SandWorkers x = new SandWorkers();
        for (int i = 0; i < 4; i++) {
            Due.is("P2 player " + i, x.player(), i);
            Due.is("P2 players", x.count(0), i + 1);
        }
    }

    /** "LIMIT_REACHED if there are 4". */
    private static void aFifthIsRefused() {
        Due.refused("P2 a fifth player", () -> Due.players(4), x -> x.player(), Due.LIMIT);
        SandWorkers x = Due.players(4);
        for (int i = 0; i < 3; i++) {
            Due.is("P2 a fifth player, again", x.player(), Due.LIMIT);
        }
        Due.is("P2 they stay 4", x.count(0), 4);
        Due.is("P2 no player 4", x.playerOf(4, 0), Due.INVALID);
    }

    private static void undoMakesRoomForAnother() {
        SandWorkers x = Due.players(4);
        x.undo();
        Due.is("P2 the fourth is undone", x.playerOf(3, 0), Due.INVALID);
        Due.is("P2 a fourth again", x.player(), 3);
        Due.is("P2 no fifth", x.player(), Due.LIMIT);
    }

    /** "goods (.. 5 of each at first)". */
    private static void goodsAreFiveEachAtFirst() {
        SandWorkers x = Due.players(4);
        for (int player = 0; player < 4; player++) {
            for (int good = 0; good < 3; good++) {
                Due.is("P2 good " + good + " of " + player, x.playerOf(player, good), 5);
            }
        }
    }

    /** "points (0 at first)". */
    private static void pointsAreNoneAtFirst() {
        SandWorkers x = Due.players(4);
        for (int player = 0; player < 4; player++) {
            Due.is("P2 points of " + player, x.playerOf(player, 3), 0);
        }
    }

    /** "3 workers, numbered from 0 .. of a size (.. 30, 60 and 90 at first)". */
    private static void workersAreThreeWithTheirSizes() {
        SandWorkers x = Due.players(4);
        for (int player = 0; player < 4; player++) {
            Due.is("P2 no worker -1", x.workerOf(player, -1, 0), Due.INVALID);
            Due.is("P2 size of the worker 0", x.workerOf(player, 0, 0), 30);
            Due.is("P2 size of the worker 1", x.workerOf(player, 1, 0), 60);
            Due.is("P2 size of the worker 2", x.workerOf(player, 2, 0), 90);
            Due.is("P2 no worker 3", x.workerOf(player, 3, 0), Due.INVALID);
        }
    }

    /** "is at home (at first) .. at home it has none". */
    private static void workersAreAtHomeAtFirst() {
        SandWorkers x = Due.players(2);
        for (int worker = 0; worker < 3; worker++) {
            Due.is("P2 at home", x.workerOf(1, worker, 1), Due.MISSING);
            Due.is("P2 no sand above", x.workerOf(1, worker, 2), 0);
            Due.is("P2 no works", x.workerOf(1, worker, 3), 0);
            Due.is("P2 no waiting", x.workerOf(1, worker, 4), 0);
            Due.is("P2 no flips", x.workerOf(1, worker, 5), 0);
        }
        Due.is("P2 all sand out", x.playerOf(1, 5), 3);
    }

    /** "If there is no player .. with a certain number, this is INVALID_ARGUMENT." */
    private static void theNumberBehindTheLastIsNone() {
        for (int players = 0; players <= 4; players++) {
            SandWorkers x = Due.players(players);
            for (int number = -1; number <= 5; number++) {
                boolean there = number >= 0 && number < players;
                Due.is("P2 player " + number + " of " + players,
                        x.playerOf(number, 0), there ? 5 : Due.INVALID);
            }
        }
    }

    /** "how many seconds have passed since its player came". */
    private static void waitingBeginsWhenItComes() {
        SandWorkers x = Due.players(1);
        x.pass(100);
        x.player();
        Due.is("P2 no waiting when it comes", x.playerOf(1, 6), 0);
        x.pass(1);
        Due.is("P2 a second of waiting", x.workerOf(1, 0, 4), 1);
        Due.is("P2 the first waits for longer", x.workerOf(0, 0, 4), 101);
    }

    private static void thoseThatAreThereStayAsTheyAre() {
        SandWorkers x = Due.players(1);
        x.task(2, 120, 0, 2);
        x.size(0, 0, 40);
        x.size(0, 1, 50);
        x.put(0, 0, 0);
        x.pass(40);
        x.put(0, 1, 0);
        for (int i = 1; i < 4; i++) {
            x.player();
            Due.is("P2 good 0 with " + i + " more", x.playerOf(0, 0), 3);
            Due.is("P2 good 1 with " + i + " more", x.playerOf(0, 1), 1);
            Due.is("P2 good 2 with " + i + " more", x.playerOf(0, 2), 5);
            Due.is("P2 points with " + i + " more", x.playerOf(0, 3), 1);
            Due.is("P2 size with " + i + " more", x.workerOf(0, 0, 0), 40);
            Due.is("P2 task with " + i + " more", x.workerOf(0, 0, 1), 0);
            Due.is("P2 sand with " + i + " more", x.workerOf(0, 1, 2), 50);
            Due.is("P2 waiting with " + i + " more", x.playerOf(0, 6), 80);
            Due.is("P2 seconds with " + i + " more", x.count(3), 40);
        }
    }
}
