import java.util.Random;

/** Long runs of calls, made by a fixed seed, on the class and on the model of it. */
public final class ModelTest {
    private static final int RUNS = 1500;
    private static final int CALLS = 512;

    private SandWorkers x = new SandWorkers();
    private Model m = new Model();
    private final Random dice;
    private final int seed;
    private int calls = 0;
    private StringBuilder log = new StringBuilder();

    private ModelTest(int seed) {
        this.seed = seed;
        dice = new Random(seed);
    }

    public static void main(String[] args) {
        for (int seed = 0; seed < RUNS && Due.failures() < 5; seed++) {
            new ModelTest(seed).run();
        }
        Due.end();
    }

    private void run() {
        int before = Due.failures();
        boolean quick = seed % 3 != 0;
        if (quick) {
            begin();
        }
        while (calls < CALLS && Due.failures() == before) {
            int kind = dice.nextInt(100);
            if (kind < 45) {
                change();
            } else if (kind < 60) {
                typeOrPlay();
            } else {
                look();
            }
        }
        if (Due.failures() != before) {
            System.out.println("seed " + seed + ":" + log);
        }
    }

    /** Small glasses, so that much is done in few calls. */
    private void begin() {
        int players = 1 + dice.nextInt(4);
        for (int p = 0; p < players; p++) {
            same("player()", x.player(), m.player());
            for (int w = 0; w < 3; w++) {
                int size = 5 + dice.nextInt(30);
                same("size(" + p + "," + w + "," + size + ")", x.size(p, w, size), m.size(p, w, size));
            }
        }
        for (int t = 0; t < 4; t++) {
            newTask();
        }
    }

    private void same(String call, int got, int want) {
        calls++;
        log.append(' ').append(call).append('=').append(got);
        Due.is("run " + seed + ", call " + calls + ": " + call, got, want);
    }

    /** Mostly from 0 to most, at times just outside, seldom far out. */
    private int near(int most) {
        int luck = dice.nextInt(60);
        if (luck == 0) {
            return -1;
        }
        if (luck == 1) {
            return most + 1;
        }
        if (luck == 2) {
            return dice.nextInt();
        }
        return dice.nextInt(most + 1);
    }

    private int player() {
        return near(Math.max(0, m.count(0) - 1));
    }

    private int task() {
        return near(Math.max(0, m.count(1) - 1));
    }

    private int contract() {
        return near(Math.max(0, m.count(2) - 1));
    }

    /** Goods as told, often small. */
    private int goods() {
        int[] least = {0, 1, 10, 100, 111, 20, 300};
        return dice.nextInt(3) > 0 ? least[dice.nextInt(least.length)] : near(999);
    }

    private int seconds() {
        return dice.nextInt(3) > 0 ? 1 + near(20) : near(600);
    }

    private void newTask() {
        int places = 1 + near(2);
        int cost = goods();
        int gain = dice.nextBoolean() ? goods() : near(999);
        int effect = near(2);
        same("task(" + places + "," + cost + "," + gain + "," + effect + ")",
                x.task(places, cost, gain, effect), m.task(places, cost, gain, effect));
    }

    private void change() {
        int p = player();
        int w = near(2);
        switch (dice.nextInt(20)) {
            case 0:
                same("player()", x.player(), m.player());
                break;
            case 1:
                int size = dice.nextBoolean() ? 5 + near(10) : near(300);
                same("size(" + p + "," + w + "," + size + ")", x.size(p, w, size), m.size(p, w, size));
                break;
            case 2:
                newTask();
                break;
            case 3:
                int price = dice.nextBoolean() ? goods() : near(999);
                int points = 1 + near(19);
                same("contract(" + price + "," + points + ")",
                        x.contract(price, points), m.contract(price, points));
                break;
            case 4:
                int c = contract();
                same("buy(" + p + "," + c + ")", x.buy(p, c), m.buy(p, c));
                break;
            case 5:
            case 6:
                same("home(" + p + "," + w + ")", x.home(p, w), m.home(p, w));
                break;
            case 7:
            case 8:
            case 9:
                same("flip(" + p + "," + w + ")", x.flip(p, w), m.flip(p, w));
                break;
            case 10:
            case 11:
            case 12:
                int seconds = seconds();
                same("pass(" + seconds + ")", x.pass(seconds), m.pass(seconds));
                break;
            case 13:
                same("undo()", x.undo(), m.undo());
                break;
            default:
                int t = task();
                same("put(" + p + "," + w + "," + t + ")", x.put(p, w, t), m.put(p, w, t));
                break;
        }
    }

    private String order() {
        int p = Math.abs(player() % 1000);
        int w = Math.abs(near(2) % 1000);
        switch (dice.nextInt(7)) {
            case 0:
                return "t" + (1 + dice.nextInt(3)) + "," + Math.abs(goods() % 1000) + ","
                        + dice.nextInt(1000) + "," + dice.nextInt(3) + ";";
            case 1:
                return "h" + p + "," + w + ";";
            case 2:
                return "c" + Math.abs(goods() % 1000) + "," + dice.nextInt(22) + ";";
            case 3:
                return "b" + p + "," + Math.abs(contract() % 1000) + ";";
            case 4:
                return "s" + Math.abs(seconds() % 1000) + ";";
            default:
                return "w" + p + "," + w + "," + Math.abs(task() % 1000) + ";";
        }
    }

    private void typeOrPlay() {
        switch (dice.nextInt(6)) {
            case 0:
                same("clearText()", x.clearText(), m.clearText());
                break;
            case 1:
                same("play()", x.play(), m.play());
                break;
            case 2:
                int what = near(2);
                same("fault(" + what + ")", x.fault(what), m.fault(what));
                break;
            case 3:
                int character = dice.nextInt(8) > 0 ? "twhcbs0123456789,,;; x/:".charAt(dice.nextInt(24))
                        : dice.nextInt(140);
                same("type(" + character + ")", x.type(character), m.type(character));
                break;
            default:
                String told = order();
                for (int i = 0; i < told.length() && calls < CALLS; i++) {
                    int sign = dice.nextInt(150) == 0 ? 32 + dice.nextInt(95) : told.charAt(i);
                    same("type(" + sign + ")", x.type(sign), m.type(sign));
                }
                break;
        }
    }

    private void look() {
        int p = player();
        int w = near(2);
        int what = near(9);
        switch (dice.nextInt(12)) {
            case 0:
                int ofPlayer = near(7);
                same("playerOf(" + p + "," + ofPlayer + ")", x.playerOf(p, ofPlayer), m.playerOf(p, ofPlayer));
                break;
            case 1:
                int ofWorker = near(5);
                same("workerOf(" + p + "," + w + "," + ofWorker + ")",
                        x.workerOf(p, w, ofWorker), m.workerOf(p, w, ofWorker));
                break;
            case 2:
                int t = task();
                int ofTask = near(5);
                same("taskOf(" + t + "," + ofTask + ")", x.taskOf(t, ofTask), m.taskOf(t, ofTask));
                break;
            case 3:
                int task = task();
                int place = near(3);
                same("on(" + task + "," + place + ")", x.on(task, place), m.on(task, place));
                break;
            case 4:
                int c = contract();
                int ofContract = near(2);
                same("contractOf(" + c + "," + ofContract + ")",
                        x.contractOf(c, ofContract), m.contractOf(c, ofContract));
                break;
            case 5:
                int ofNext = near(1);
                same("next(" + ofNext + ")", x.next(ofNext), m.next(ofNext));
                break;
            case 6:
                int seconds = seconds();
                int ofWould = near(4);
                same("would(" + p + "," + seconds + "," + ofWould + ")",
                        x.would(p, seconds, ofWould), m.would(p, seconds, ofWould));
                break;
            case 7:
                int ofBest = near(1);
                same("best(" + p + "," + w + "," + ofBest + ")", x.best(p, w, ofBest), m.best(p, w, ofBest));
                break;
            case 8:
                int price = contract();
                int again = task();
                same("earns(" + p + "," + price + "," + again + ")",
                        x.earns(p, price, again), m.earns(p, price, again));
                break;
            case 9:
                same("busy(" + p + "," + w + ")", x.busy(p, w), m.busy(p, w));
                break;
            case 10:
                same("playerOf(" + p + ",7)", x.playerOf(p, 7), m.playerOf(p, 7));
                break;
            default:
                same("count(" + what + ")", x.count(what), m.count(what));
                break;
        }
    }
}
