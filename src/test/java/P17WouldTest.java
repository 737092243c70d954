import java.util.List;
import java.util.function.ToIntFunction;

/** Promise 17: would. */
public final class P17WouldTest {
    private P17WouldTest() {
    }

    public static void main(String[] args) {
        noSuchPlayer();
        secondsOutside();
        noSuchWhat();
        behindNoSecondsAllIsAsItIs();
        theLastSecondCounts();
        upToSixHundred();
        aWorkInTheLastOf600();
        byFlipsThatCome();
        tellsWhatAPassWouldBring();
        worksInTheseSecondsAlone();
        atMost99OfAGood();
        isToldBeyond9999();
        changesNothing();
        changesBehindItStandOnWhatIs();
        Due.end();
    }

    private static SandWorkers game() {
        SandWorkers x = Due.players(2);
        x.task(3, 0, 123, 2);
        x.task(3, 0, 0, 1);
        x.put(0, 0, 0);
        x.put(0, 2, 0);
        x.put(1, 1, 1);
        return x;
    }

    /** "INVALID_ARGUMENT if an argument is out of range". */
    private static void noSuchPlayer() {
        for (int player : Due.outside(0, 1)) {
            Due.looks("P17 player " + player, P17WouldTest::game, x -> x.would(player, 1, 0), Due.INVALID);
        }
    }

    /** "seconds: 0 to 600". */
    private static void secondsOutside() {
        for (int seconds : Due.outside(0, 600)) {
            Due.looks("P17 seconds " + seconds, P17WouldTest::game, x -> x.would(0, seconds, 0),
                    Due.INVALID);
        }
    }

    private static void noSuchWhat() {
        for (int what : Due.outside(0, 4)) {
            Due.looks("P17 what " + what, P17WouldTest::game, x -> x.would(0, 1, what), Due.INVALID);
        }
    }

    private static void behindNoSecondsAllIsAsItIs() {
        SandWorkers x = game();
        x.pass(30);
        int[] due = {6, 7, 8, 1, 0};
        for (int what = 0; what < 5; what++) {
            Due.is("P17 at once, " + what, x.would(0, 0, what), due[what]);
        }
    }

    private static void theLastSecondCounts() {
        SandWorkers x = game();
        int[] before = {5, 5, 5, 0, 0};
        int[] then = {6, 7, 8, 1, 1};
        for (int what = 0; what < 5; what++) {
            Due.is("P17 behind 29, " + what, x.would(0, 29, what), before[what]);
            Due.is("P17 behind 30, " + what, x.would(0, 30, what), then[what]);
            Due.is("P17 behind 31, " + what, x.would(0, 31, what), then[what]);
        }
    }

    private static void upToSixHundred() {
        SandWorkers x = Due.players(1);
        x.task(3, 0, 100, 1);
        x.size(0, 0, 300);
        x.size(0, 1, 299);
        x.size(0, 2, 300);
        x.put(0, 0, 0);
        x.put(0, 2, 0);
        x.put(0, 1, 0);
        // 01 ends at 299 and flips both from 1 to 299: they end at 598.
        Due.is("P17 behind 597", x.would(0, 597, 4), 1);
        Due.is("P17 behind 598", x.would(0, 598, 4), 3);
        x.flip(0, 1);
        // Both are full as well: all is done at once.
        Due.is("P17 none is left in 600", x.would(0, 600, 4), 0);
        SandWorkers y = Due.players(2);
        y.task(3, 0, 100, 1);
        y.task(3, 0, 100, 0);
        y.size(0, 0, 300);
        y.size(1, 0, 300);
        y.put(1, 0, 0);
        y.pass(1);
        y.put(0, 0, 1);
        // 10 ends at 299 and flips 00 from 1 to 299: it ends at 598.
        Due.is("P17 flipped in its last second but one", y.would(0, 597, 4), 0);
        Due.is("P17 it ends at 598", y.would(0, 598, 0), 6);
        Due.is("P17 behind 600", y.would(0, 600, 0), 6);
    }

    /** 00 is flipped at 155 from 135 to 165, and at 310 from 10 to 290. */
    private static void aWorkInTheLastOf600() {
        SandWorkers x = Due.players(3);
        x.task(3, 0, 1, 1);
        for (int player = 0; player < 3; player++) {
            x.size(player, 0, player == 1 ? 155 : 300);
        }
        x.put(0, 0, 0);
        x.pass(10);
        x.put(1, 0, 0);
        x.put(2, 0, 0);
        Due.is("P17 a second before 600", x.would(0, 599, 4), 0);
        Due.is("P17 with the second 600", x.would(0, 600, 4), 1);
        Due.is("P17 its gain", x.would(0, 600, 2), 6);
    }

    private static void byFlipsThatCome() {
        SandWorkers x = game();
        // 02 has 30 above when it is flipped at 60 to 60: it is out at 120.
        Due.is("P17 before the flipped one", x.would(0, 119, 4), 1);
        Due.is("P17 with the flipped one", x.would(0, 120, 4), 2);
        Due.is("P17 its points", x.would(0, 120, 3), 2);
        Due.is("P17 the other's work", x.would(1, 600, 4), 1);
        Due.is("P17 the other's points", x.would(1, 600, 3), 0);
    }

    /** Behind each number of seconds it tells what playerOf tells behind a pass of as many. */
    private static void tellsWhatAPassWouldBring() {
        for (int seconds : new int[] {1, 2, 29, 30, 59, 60, 61, 119, 120, 300, 599, 600}) {
            SandWorkers x = game();
            SandWorkers y = game();
            y.pass(seconds);
            for (int player = 0; player < 2; player++) {
                for (int what = 0; what < 5; what++) {
                    Due.is("P17 would(" + player + ", " + seconds + ", " + what + ")",
                            x.would(player, seconds, what), y.playerOf(player, what));
                }
            }
        }
    }

    /** "4: works done in these seconds". */
    private static void worksInTheseSecondsAlone() {
        SandWorkers x = game();
        x.pass(30);
        Due.is("P17 none in 1", x.would(0, 1, 4), 0);
        Due.is("P17 one in 90", x.would(0, 90, 4), 1);
        Due.is("P17 points are all of them", x.would(0, 90, 3), 2);
    }

    private static void atMost99OfAGood() {
        SandWorkers x = Due.players(1);
        x.task(1, 0, 999, 0);
        x.size(0, 0, 5);
        for (int i = 0; i < 10; i++) {
            x.put(0, 0, 0);
            x.pass(5);
        }
        x.put(0, 0, 0);
        for (int good = 0; good < 3; good++) {
            Due.is("P17 95 now", x.would(0, 4, good), 95);
            Due.is("P17 99 then", x.would(0, 5, good), 99);
        }
        Due.is("P17 none is lost by asking", x.count(7), 0);
    }

    private static void isToldBeyond9999() {
        SandWorkers x = Due.players(1);
        x.task(1, 0, 100, 0);
        Due.pass(x, 9999);
        x.put(0, 0, 0);
        Due.is("P17 at the last second", x.would(0, 30, 0), 6);
    }

    private static void changesNothing() {
        Due.looks("P17 behind 600", P17WouldTest::game, x -> x.would(0, 600, 3), 2);
        Due.looks("P17 behind 0", P17WouldTest::game, x -> x.would(0, 0, 0), 5);
    }

    private static void changesBehindItStandOnWhatIs() {
        List<ToIntFunction<SandWorkers>> changes = List.of(x -> x.player(), x -> x.size(0, 1, 7),
                x -> x.task(1, 0, 0, 0), x -> x.contract(0, 1), x -> x.put(0, 1, 0),
                x -> x.home(1, 0), x -> x.flip(0, 0), x -> x.buy(0, 0), x -> x.pass(1),
                x -> x.play());
        for (int i = 0; i < changes.size(); i++) {
            SandWorkers asked = ofAllKinds();
            SandWorkers notAsked = ofAllKinds();
            asked.would(0, 600, 0);
            String name = "P17 change " + i + " behind a look of 600";
            int answer = changes.get(i).applyAsInt(notAsked);
            Due.isTrue(name + " is possible", answer >= 0);
            Due.is(name, changes.get(i).applyAsInt(asked), answer);
            Due.alike(name, asked, notAsked);
        }
    }

    /** 00 runs, 10 is out on a task, a contract is laid, and an order is typed. */
    private static SandWorkers ofAllKinds() {
        SandWorkers x = game();
        x.contract(100, 1);
        x.put(1, 0, 1);
        x.pass(70);
        x.put(0, 0, 0);
        Due.type(x, "w0,1,0;");
        return x;
    }
}
