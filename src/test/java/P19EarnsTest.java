/** Promise 19: earns. */
public final class P19EarnsTest {
    private P19EarnsTest() {
    }

    public static void main(String[] args) {
        noSuchPlayer();
        noSuchContract();
        noSuchTask();
        invalidRatherThanNotFound();
        atOnceWithThePrice();
        aSecondAtLeastWithoutIt();
        withTheLastOf600();
        notWithTheNext();
        neverByTheTask();
        neverWithoutTheCost();
        neverWithoutAPlace();
        askedAheadOfPutting();
        putAgainAndAgain();
        theLowestFirstForAPlace();
        theLowestFirstForTheCost();
        theOwnPlaceOfAWorker();
        onesThatRunGoOnFirst();
        onesThatAreOutElsewhereArePut();
        othersGoOnAndStay();
        eachSecondAsDoneByHand();
        isToldBeyond9999();
        changesNothing();
        Due.end();
    }

    private static SandWorkers game() {
        SandWorkers x = Due.players(2);
        x.task(3, 0, 100, 0);
        x.task(1, 0, 1, 1);
        x.contract(555, 1);
        x.contract(600, 1);
        x.contract(6, 1);
        return x;
    }

    /** "INVALID_ARGUMENT if an argument is out of range". */
    private static void noSuchPlayer() {
        for (int player : Due.outside(0, 1)) {
            Due.looks("P19 player " + player, P19EarnsTest::game, x -> x.earns(player, 0, 0), Due.INVALID);
        }
    }

    private static void noSuchContract() {
        for (int contract : Due.outside(0, 2)) {
            Due.looks("P19 contract " + contract, P19EarnsTest::game, x -> x.earns(0, contract, 0),
                    Due.INVALID);
        }
    }

    private static void noSuchTask() {
        for (int task : Due.outside(0, 1)) {
            Due.looks("P19 task " + task, P19EarnsTest::game, x -> x.earns(0, 0, task), Due.INVALID);
        }
    }

    private static void invalidRatherThanNotFound() {
        Due.is("P19 never, no player", game().earns(2, 2, 0), Due.INVALID);
        Due.is("P19 never, no task", game().earns(0, 2, 2), Due.INVALID);
    }

    /** "how many seconds, 0 to 600": 0 if it has the price, whatever the task is. */
    private static void atOnceWithThePrice() {
        SandWorkers x = game();
        Due.is("P19 the exact price", x.earns(0, 0, 0), 0);
        x.put(1, 0, 1);
        Due.is("P19 without a place", x.earns(0, 0, 1), 0);
        x.task(1, 999, 0, 0);
        Due.is("P19 without the cost", x.earns(0, 0, 2), 0);
        x.task(1, 555, 0, 0);
        x.contract(0, 1);
        x.put(0, 0, 3);
        Due.is("P19 the price 0 without goods", x.earns(0, 3, 0), 0);
    }

    private static void aSecondAtLeastWithoutIt() {
        SandWorkers x = game();
        x.put(0, 0, 0);
        x.pass(29);
        Due.is("P19 a second before its end", x.earns(0, 1, 0), 1);
        x.pass(1);
        Due.is("P19 at its end", x.earns(0, 1, 0), 0);
    }

    /** A task with one place that gains one good 0 each 300 seconds, and the worker 00 on it. */
    private static SandWorkers slow(int price, int above) {
        SandWorkers x = Due.players(1);
        x.task(1, 0, 100, 0);
        x.contract(price, 1);
        x.size(0, 0, 300);
        x.put(0, 0, 0);
        Due.pass(x, 300 - above);
        return x;
    }

    private static void withTheLastOf600() {
        Due.is("P19 one work behind 300", slow(600, 300).earns(0, 0, 0), 300);
        Due.is("P19 two works behind 600", slow(700, 300).earns(0, 0, 0), 600);
        Due.is("P19 two more works behind 600", slow(800, 0).earns(0, 0, 0), 600);
        SandWorkers x = slow(700, 300);
        x.flip(0, 0);
        x.size(0, 0, 299);
        x.contract(800, 1);
        Due.is("P19 two more works behind 598", x.earns(0, 1, 0), 598);
    }

    /** "NOT_FOUND if it could not by then". */
    private static void notWithTheNext() {
        Due.is("P19 one behind 1", slow(600, 1).earns(0, 0, 0), 1);
        Due.is("P19 two behind 301", slow(700, 1).earns(0, 0, 0), 301);
        Due.is("P19 three behind 601", slow(800, 1).earns(0, 0, 0), Due.MISSING);
        Due.is("P19 three behind 900", slow(800, 300).earns(0, 0, 0), Due.MISSING);
        Due.is("P19 nine, never in the time", slow(900, 300).earns(0, 0, 0), Due.MISSING);
    }

    private static void neverByTheTask() {
        SandWorkers x = game();
        Due.is("P19 a good that the task does not gain", x.earns(0, 2, 0), Due.MISSING);
        x.task(3, 0, 0, 2);
        Due.is("P19 a task without a gain", x.earns(0, 1, 2), Due.MISSING);
    }

    private static void neverWithoutTheCost() {
        SandWorkers x = game();
        x.task(3, 6, 900, 0);
        Due.is("P19 the cost is never there", x.earns(0, 1, 2), Due.MISSING);
        x.task(3, 5, 100, 0);
        x.contract(700, 1);
        Due.is("P19 the cost is there once", x.earns(0, 1, 3), 30);
        Due.is("P19 and not twice", x.earns(0, 3, 3), Due.MISSING);
    }

    /** "nobody else did anything": the place of another stays taken. */
    private static void neverWithoutAPlace() {
        SandWorkers x = game();
        x.contract(6, 1);
        Due.is("P19 a place is left", x.earns(0, 2, 1), 30);
        x.put(1, 0, 1);
        Due.is("P19 another runs there", x.earns(0, 2, 1), Due.MISSING);
        x.pass(30);
        Due.is("P19 another is out there", x.earns(0, 2, 1), Due.MISSING);
        x.home(1, 0);
        Due.is("P19 a place is left again", x.earns(0, 2, 1), 30);
    }

    /** "It is asked at each second ahead of putting." */
    private static void askedAheadOfPutting() {
        SandWorkers x = Due.players(1);
        x.task(1, 500, 600, 0);
        x.contract(500, 1);
        x.contract(600, 1);
        x.contract(700, 1);
        Due.is("P19 the price that the cost would take", x.earns(0, 0, 0), 0);
        Due.is("P19 the gain that the next cost would take", x.earns(0, 1, 0), 30);
        Due.is("P19 one more each time", x.earns(0, 2, 0), 60);
    }

    private static void putAgainAndAgain() {
        for (int works = 1; works <= 4; works++) {
            SandWorkers x = Due.players(1);
            x.task(1, 0, 100, 0);
            x.contract(500 + 100 * works, 1);
            Due.is("P19 " + works + " works of one", x.earns(0, 0, 0), 30 * works);
        }
        int[] due = {30, 60, 60, 90};
        for (int works = 1; works <= 4; works++) {
            SandWorkers x = Due.players(1);
            x.task(3, 0, 100, 0);
            x.contract(500 + 100 * works, 1);
            Due.is("P19 " + works + " works of three", x.earns(0, 0, 0), due[works - 1]);
        }
    }

    /** "the lowest one first": it holds the place. */
    private static void theLowestFirstForAPlace() {
        SandWorkers x = Due.players(1);
        x.task(1, 0, 100, 0);
        x.contract(700, 1);
        x.size(0, 0, 50);
        x.size(0, 1, 10);
        Due.is("P19 twice by 00", x.earns(0, 0, 0), 100);
        SandWorkers y = Due.players(1);
        y.task(2, 0, 100, 0);
        y.contract(800, 1);
        y.size(0, 2, 5);
        // 00 at 30 and 60, 01 at 60; 02 finds no place.
        Due.is("P19 by 00 and 01", y.earns(0, 0, 0), 60);
    }

    /** "the lowest one first": its cost is paid. */
    private static void theLowestFirstForTheCost() {
        SandWorkers x = Due.players(1);
        x.task(3, 300, 600, 0);
        x.contract(900, 1);
        x.size(0, 0, 100);
        x.size(0, 1, 7);
        // 5: only 00 is put (2 left). At 100: 8, so 00 and 01 are put (2); at 107: 8, 01 again
        // (5) and 02 (2). At 114: 8 again, 01 (5); at 121: 11.
        Due.is("P19 00 first", x.earns(0, 0, 0), 121);
    }

    private static void theOwnPlaceOfAWorker() {
        SandWorkers x = Due.players(1);
        x.task(1, 0, 100, 0);
        x.contract(600, 1);
        x.put(0, 2, 0);
        x.flip(0, 2);
        x.contract(700, 1);
        // 02 is out there, so that 00 and 01 find no place.
        Due.is("P19 the one that is there", x.earns(0, 1, 0), 90);
    }

    /** "workers that have sand above go on with their tasks first". */
    private static void onesThatRunGoOnFirst() {
        SandWorkers x = Due.players(1);
        x.task(3, 0, 100, 0);
        x.task(3, 0, 10, 0);
        x.contract(600, 1);
        x.contract(60, 1);
        for (int worker = 0; worker < 3; worker++) {
            x.put(0, worker, 1);
        }
        x.pass(10);
        Due.is("P19 the gain of the task that it is on", x.earns(0, 1, 0), 20);
        Due.is("P19 then that of the other", x.earns(0, 0, 0), 50);
    }

    private static void onesThatAreOutElsewhereArePut() {
        SandWorkers x = Due.players(1);
        x.task(3, 0, 100, 0);
        x.task(3, 0, 10, 0);
        x.contract(600, 1);
        x.put(0, 0, 1);
        x.pass(30);
        x.put(0, 1, 1);
        x.put(0, 2, 1);
        Due.is("P19 the one that is out", x.earns(0, 0, 0), 30);
    }

    /** "workers of others go on with what they have begun": their effects come, they are not put. */
    private static void othersGoOnAndStay() {
        SandWorkers x = Due.players(2);
        x.task(1, 0, 100, 0);
        x.task(3, 0, 0, 1);
        x.contract(600, 1);
        x.contract(700, 1);
        x.size(0, 0, 100);
        x.put(1, 1, 1);
        // 11 ends at 60 and flips 00 from 40 to 60; it is not put again.
        Due.is("P19 a flip by another", x.earns(0, 0, 0), 120);
        Due.is("P19 and none later", x.earns(0, 1, 0), 220);
        Due.is("P19 the other gains nothing by it", x.earns(1, 1, 0), 60);
    }

    /** As if one put and asked by hand; the answers are small, so that the calls are few. */
    private static void eachSecondAsDoneByHand() {
        int[] prices = {600, 700, 800, 900, 999, 6, 60, 66, 767};
        for (int price : prices) {
            for (int effect = 0; effect < 3; effect++) {
                for (int cost : new int[] {0, 200, 111}) {
                    byHand(price, effect, cost);
                }
            }
        }
    }

    private static SandWorkers quick(int price, int effect, int cost) {
        SandWorkers x = Due.players(2);
        x.task(2, cost, 412, effect);
        x.task(3, 0, 141, 1);
        x.contract(price, 1);
        x.size(0, 0, 7);
        x.size(0, 1, 11);
        x.size(0, 2, 5);
        x.size(1, 0, 17);
        x.put(0, 1, 1);
        x.put(1, 0, 1);
        x.put(1, 1, 1);
        x.pass(3);
        return x;
    }

    private static void byHand(int price, int effect, int cost) {
        SandWorkers x = quick(price, effect, cost);
        SandWorkers y = quick(price, effect, cost);
        int answer = x.earns(0, 0, 0);
        int seconds = 0;
        while (seconds < 90 && (y.contractOf(0, 2) & 1) == 0) {
            for (int worker = 0; worker < 3; worker++) {
                y.put(0, worker, 0);
            }
            y.pass(1);
            seconds++;
        }
        String name = "P19 price " + price + ", effect " + effect + ", cost " + cost;
        if (seconds < 90) {
            Due.is(name, answer, seconds);
        } else {
            Due.isTrue(name + " is not there by 89", answer == Due.MISSING || answer >= 90);
        }
    }

    private static void isToldBeyond9999() {
        SandWorkers x = Due.players(1);
        x.task(1, 0, 100, 0);
        x.contract(700, 1);
        Due.pass(x, 9999);
        Due.is("P19 at the last second", x.earns(0, 0, 0), 60);
    }

    private static void changesNothing() {
        Due.looks("P19 at once", P19EarnsTest::game, x -> x.earns(0, 0, 0), 0);
        Due.looks("P19 later", P19EarnsTest::game, x -> x.earns(0, 1, 0), 30);
        Due.looks("P19 never", P19EarnsTest::game, x -> x.earns(0, 2, 0), Due.MISSING);
    }
}
