/** Promises 6 to 10: put, home, flip, buy, pass. */
public final class MovesTest {
    private static final int[] FAR = {Integer.MIN_VALUE, -1, Integer.MAX_VALUE};

    private MovesTest() {
    }

    public static void main(String[] args) {
        putTakesPlacesAndPays();
        putOnTheOwnPlace();
        putRefuses();
        homeTakes();
        homeRefuses();
        flipTurns();
        flipEndsWorkAndRunsOn();
        flipRefuses();
        buyPays();
        buyRefuses();
        passRunsSand();
        passOrdersWorks();
        passFlipsLittleSand();
        passRefuses();
        Due.end();
    }

    private static void putTakesPlacesAndPays() {
        SandWorkers x = Due.players(2);
        x.task(2, 123, 0, 0);
        x.task(1, 0, 0, 0);
        Due.is("P6 put", x.put(0, 1, 0), 1);
        Due.is("P6 paid 0", x.playerOf(0, 0), 4);
        Due.is("P6 paid 1", x.playerOf(0, 1), 3);
        Due.is("P6 paid 2", x.playerOf(0, 2), 2);
        Due.is("P6 all sand above", x.workerOf(0, 1, 2), 60);
        Due.is("P6 its task", x.workerOf(0, 1, 1), 0);
        Due.is("P6 put of the other player", x.put(1, 0, 0), 0);
        Due.is("P6 no place", x.put(0, 0, 0), Due.IMPOSSIBLE);
        Due.is("P6 the good 2 is not there", x.put(0, 0, 0), Due.IMPOSSIBLE);
        Due.is("P6 put elsewhere", x.put(0, 0, 1), 0);
        Due.is("P6 its sand is not out", x.put(0, 0, 0), Due.IMPOSSIBLE);
        x.pass(30);
        Due.is("P6 places of one that is out are taken", x.taskOf(1, 4), 0);
        Due.is("P6 no place, though it is out", x.put(0, 2, 1), Due.IMPOSSIBLE);
        Due.is("P6 move", x.put(1, 0, 1), Due.IMPOSSIBLE);
        x.task(1, 0, 0, 0);
        Due.is("P6 from task to task", x.put(1, 0, 2), 0);
        Due.is("P6 the place behind it is left", x.taskOf(0, 4), 1);
    }

    private static void putOnTheOwnPlace() {
        SandWorkers x = Due.players(1);
        x.task(1, 2, 0, 0);
        x.put(0, 0, 0);
        x.pass(30);
        Due.is("P6 its own place", x.put(0, 0, 0), 0);
        Due.is("P6 paid once more", x.playerOf(0, 2), 1);
        x.pass(30);
        Due.is("P6 the cost is not there", x.put(0, 0, 0), Due.IMPOSSIBLE);
        Due.is("P6 nothing paid", x.playerOf(0, 2), 1);
    }

    private static void putRefuses() {
        SandWorkers x = Due.players(1);
        x.task(1, 600, 0, 0);
        int states = x.count(8);
        for (int far : FAR) {
            Due.is("P6 player " + far, x.put(far, 0, 0), Due.INVALID);
            Due.is("P6 worker " + far, x.put(0, far, 0), Due.INVALID);
            Due.is("P6 task " + far, x.put(0, 0, far), Due.INVALID);
        }
        Due.is("P6 player 1", x.put(1, 0, 0), Due.INVALID);
        Due.is("P6 worker 3", x.put(0, 3, 0), Due.INVALID);
        Due.is("P6 task 1", x.put(0, 0, 1), Due.INVALID);
        Due.is("P6 not the cost", x.put(0, 0, 0), Due.IMPOSSIBLE);
        x.task(1, 60, 0, 0);
        x.task(1, 6, 0, 0);
        x.task(1, 555, 0, 0);
        Due.is("P6 not the good 1", x.put(0, 0, 1), Due.IMPOSSIBLE);
        Due.is("P6 not the good 2", x.put(0, 0, 2), Due.IMPOSSIBLE);
        Due.is("P6 states", x.count(8), states + 2 > 4 ? 4 : states + 2);
        Due.is("P6 all there is", x.put(0, 0, 3), 0);
        Due.is("P6 nothing is left", x.playerOf(0, 0) + x.playerOf(0, 1) + x.playerOf(0, 2), 0);
    }

    private static void homeTakes() {
        SandWorkers x = Due.players(1);
        x.task(1, 0, 0, 0);
        x.task(1, 0, 0, 0);
        x.put(0, 1, 1);
        x.pass(60);
        Due.is("P7 home", x.home(0, 1), 1);
        Due.is("P7 at home", x.workerOf(0, 1, 1), Due.MISSING);
        Due.is("P7 the place is left", x.taskOf(1, 4), 1);
        Due.is("P7 nobody on it", x.on(1, 0), Due.MISSING);
        Due.is("P7 works stay", x.workerOf(0, 1, 3), 1);
    }

    private static void homeRefuses() {
        SandWorkers x = Due.players(1);
        x.task(1, 0, 0, 0);
        x.put(0, 1, 0);
        for (int far : FAR) {
            Due.is("P7 player " + far, x.home(far, 0), Due.INVALID);
            Due.is("P7 worker " + far, x.home(0, far), Due.INVALID);
        }
        Due.is("P7 player 1", x.home(1, 0), Due.INVALID);
        Due.is("P7 worker 3", x.home(0, 3), Due.INVALID);
        Due.is("P7 at home", x.home(0, 0), Due.IMPOSSIBLE);
        Due.is("P7 sand above", x.home(0, 1), Due.IMPOSSIBLE);
        Due.is("P7 states", x.count(8), 3);
    }

    private static void flipTurns() {
        SandWorkers x = Due.players(1);
        x.task(3, 0, 100, 1);
        x.put(0, 0, 0);
        x.put(0, 1, 0);
        x.pass(10);
        Due.is("P8 flip", x.flip(0, 0), 10);
        Due.is("P8 sand", x.workerOf(0, 0, 2), 10);
        Due.is("P8 other stays", x.workerOf(0, 1, 2), 50);
        Due.is("P8 flipped", x.workerOf(0, 0, 5), 1);
        Due.is("P8 flip back", x.flip(0, 0), 20);
        Due.is("P8 flipped twice", x.workerOf(0, 0, 5), 2);
        Due.is("P8 flips", x.count(5), 2);
        Due.is("P8 no work", x.count(4), 0);
    }

    /** A full glass is flipped: its work flips the rest, and the full ones among them are done too. */
    private static void flipEndsWorkAndRunsOn() {
        SandWorkers x = Due.players(2);
        x.task(3, 0, 100, 1);
        x.task(3, 0, 10, 2);
        x.put(1, 2, 1);
        x.pass(20);
        x.put(0, 0, 0);
        x.put(0, 1, 0);
        x.put(1, 0, 1);
        Due.is("P8 full flip", x.flip(0, 0), 0);
        // The first flips 01 (out), 10 (out) and 12 (70 to 20); the second flips 12 (20 to 70).
        Due.is("P8 works", x.count(4), 3);
        Due.is("P8 second work by flip", x.workerOf(0, 1, 3), 1);
        Due.is("P8 third work by flip", x.workerOf(1, 0, 3), 1);
        Due.is("P8 goods of player 0", x.playerOf(0, 0), 7);
        Due.is("P8 goods of player 1", x.playerOf(1, 1), 6);
        Due.is("P8 point of player 1", x.playerOf(1, 3), 1);
        Due.is("P8 sand of 12", x.workerOf(1, 2, 2), 70);
        Due.is("P8 12 flipped twice", x.workerOf(1, 2, 5), 2);
        Due.is("P8 01 flipped once", x.workerOf(0, 1, 5), 1);
        Due.is("P8 all flips", x.count(5), 5);
    }

    private static void flipRefuses() {
        SandWorkers x = Due.players(1);
        x.task(1, 0, 0, 0);
        x.put(0, 1, 0);
        for (int far : FAR) {
            Due.is("P8 player " + far, x.flip(far, 1), Due.INVALID);
            Due.is("P8 worker " + far, x.flip(0, far), Due.INVALID);
        }
        Due.is("P8 player 1", x.flip(1, 1), Due.INVALID);
        Due.is("P8 worker 3", x.flip(0, 3), Due.INVALID);
        Due.is("P8 at home", x.flip(0, 0), Due.IMPOSSIBLE);
        x.pass(60);
        Due.is("P8 sand out on a task", x.flip(0, 1), Due.IMPOSSIBLE);
        Due.is("P8 no flips", x.count(5), 0);
    }

    private static void buyPays() {
        SandWorkers x = Due.players(2);
        x.contract(555, 20);
        x.contract(123, 3);
        x.contract(0, 1);
        Due.is("P9 buy", x.buy(1, 1), 3);
        Due.is("P9 paid 0", x.playerOf(1, 0), 4);
        Due.is("P9 paid 1", x.playerOf(1, 1), 3);
        Due.is("P9 paid 2", x.playerOf(1, 2), 2);
        Due.is("P9 other stays", x.playerOf(0, 0), 5);
        Due.is("P9 contracts", x.count(2), 2);
        Due.is("P9 those behind move up", x.contractOf(1, 1), 1);
        Due.is("P9 it lacks the price", x.buy(1, 0), Due.IMPOSSIBLE);
        Due.is("P9 points add up", x.buy(1, 1), 4);
        Due.is("P9 exact price", x.buy(0, 0), 20);
        Due.is("P9 all paid", x.playerOf(0, 2), 0);
        Due.is("P9 no contract is left", x.buy(0, 0), Due.INVALID);
    }

    private static void buyRefuses() {
        SandWorkers x = Due.players(1);
        x.contract(600, 1);
        for (int far : FAR) {
            Due.is("P9 player " + far, x.buy(far, 0), Due.INVALID);
            Due.is("P9 contract " + far, x.buy(0, far), Due.INVALID);
        }
        Due.is("P9 player 1", x.buy(1, 0), Due.INVALID);
        Due.is("P9 contract 1", x.buy(0, 1), Due.INVALID);
        Due.is("P9 not the good 0", x.buy(0, 0), Due.IMPOSSIBLE);
        Due.is("P9 states", x.count(8), 2);
        Due.is("P9 the contract stays", x.count(2), 1);
    }

    private static void passRunsSand() {
        SandWorkers x = Due.players(1);
        x.task(3, 0, 321, 0);
        x.put(0, 0, 0);
        x.put(0, 2, 0);
        Due.is("P10 pass 29", x.pass(29), 0);
        Due.is("P10 sand", x.workerOf(0, 0, 2), 1);
        Due.is("P10 pass 1", x.pass(1), 1);
        Due.is("P10 gain 0", x.playerOf(0, 0), 8);
        Due.is("P10 gain 1", x.playerOf(0, 1), 7);
        Due.is("P10 gain 2", x.playerOf(0, 2), 6);
        Due.is("P10 still on the task", x.workerOf(0, 0, 1), 0);
        Due.is("P10 pass 600", x.pass(600), 1);
        Due.is("P10 seconds", x.count(3), 630);
        Due.is("P10 waiting 0", x.workerOf(0, 0, 4), 600);
        Due.is("P10 waiting 1", x.workerOf(0, 1, 4), 630);
        Due.is("P10 waiting 2", x.workerOf(0, 2, 4), 540);
        x.player();
        x.pass(7);
        Due.is("P10 waiting since it came", x.workerOf(1, 0, 4), 7);
    }

    /** Two of effect 1 end together: each flips those that run, in one second. */
    private static void passOrdersWorks() {
        SandWorkers x = Due.players(3);
        x.task(3, 0, 900, 1);
        x.task(3, 0, 1, 2);
        x.size(0, 0, 40);
        x.size(2, 0, 40);
        x.put(2, 0, 0);
        x.put(0, 0, 0);
        x.put(1, 2, 1);
        x.pass(15);
        x.put(1, 0, 1);
        Due.is("P10 both works", x.pass(25), 2);
        Due.is("P10 flipped and back", x.workerOf(1, 2, 2), 50);
        Due.is("P10 flipped and back too", x.workerOf(1, 0, 2), 5);
        Due.is("P10 flips", x.count(5), 4);
        Due.is("P10 those that are done are not flipped", x.workerOf(2, 0, 5), 0);
        // 5 and 11 works of 9 each: 5 + 11 * 9 = 104.
        for (int i = 0; i < 10; i++) {
            x.put(0, 0, 0);
            x.pass(40);
        }
        Due.is("P10 at most 99", x.playerOf(0, 0), 99);
        Due.is("P10 lost", x.count(7), 5);
        // 10 is done; 12 is flipped each time before it ends.
        Due.is("P10 points by effect", x.playerOf(1, 3), 1);
        Due.is("P10 flipped without an end", x.workerOf(1, 2, 5), 12);
    }

    /** One second above is flipped, too; none is not. */
    private static void passFlipsLittleSand() {
        SandWorkers x = Due.players(1);
        x.task(3, 0, 0, 1);
        x.size(0, 0, 10);
        x.size(0, 1, 11);
        x.size(0, 2, 12);
        x.put(0, 0, 0);
        x.put(0, 1, 0);
        x.put(0, 2, 0);
        Due.is("P10 the first", x.pass(10), 1);
        Due.is("P10 1 of 11 is flipped", x.workerOf(0, 1, 2), 10);
        Due.is("P10 2 of 12 is flipped", x.workerOf(0, 2, 2), 10);
        Due.is("P10 two at once", x.pass(10), 2);
        Due.is("P10 none is not", x.count(5), 2);
    }

    private static void passRefuses() {
        SandWorkers x = Due.players(1);
        for (int far : FAR) {
            Due.is("P10 pass " + far, x.pass(far), Due.INVALID);
        }
        Due.is("P10 pass 0", x.pass(0), Due.INVALID);
        Due.is("P10 pass 601", x.pass(601), Due.INVALID);
        for (int i = 0; i < 16; i++) {
            x.pass(600);
        }
        Due.is("P10 later than 9999", x.pass(400), Due.LIMIT);
        Due.is("P10 invalid rather than the limit", x.pass(601), Due.INVALID);
        Due.is("P10 9999", x.pass(399), 0);
        Due.is("P10 seconds", x.count(3), 9999);
        Due.is("P10 one more", x.pass(1), Due.LIMIT);
        x.task(1, 0, 100, 0);
        x.put(0, 0, 0);
        Due.is("P10 others look beyond", x.would(0, 30, 0), 6);
        Due.is("P10 next looks beyond", x.next(1), 30);
    }
}
