import java.util.ArrayDeque;
import java.util.ArrayList;
import java.util.Arrays;
import java.util.Collections;
import java.util.Comparator;
import java.util.Deque;
import java.util.List;
import java.util.regex.Matcher;
import java.util.regex.Pattern;

/**
 * The document once more, written apart from the class and in other ways: objects instead of rows,
 * second for second instead of by steps, orders by patterns. ModelTest compares the two.
 */
final class Model {
    private static final class Worker {
        int size;
        Task task;
        int above;
        int works;
        int waiting;
        int flips;
        int number;
        Player owner;
    }

    private static final class Player {
        int[] goods = {5, 5, 5};
        int points;
        int number;
        Worker[] workers = new Worker[3];
    }

    private static final class Task {
        int places;
        int cost;
        int gain;
        int effect;
        int works;
        List<Worker> on = new ArrayList<>();
    }

    private static final class State {
        int seconds;
        int lost;
        List<Player> players = new ArrayList<>();
        List<Task> tasks = new ArrayList<>();
        List<int[]> contracts = new ArrayList<>();

        State copy() {
            State s = new State();
            s.seconds = seconds;
            s.lost = lost;
            for (int[] contract : contracts) {
                s.contracts.add(contract.clone());
            }
            for (Task t : tasks) {
                Task copied = new Task();
                copied.places = t.places;
                copied.cost = t.cost;
                copied.gain = t.gain;
                copied.effect = t.effect;
                copied.works = t.works;
                s.tasks.add(copied);
            }
            for (Player p : players) {
                Player copied = s.come();
                copied.goods = p.goods.clone();
                copied.points = p.points;
                for (int i = 0; i < 3; i++) {
                    copyWorker(p.workers[i], copied.workers[i], s);
                }
            }
            for (int i = 0; i < tasks.size(); i++) {
                for (Worker w : tasks.get(i).on) {
                    s.tasks.get(i).on.add(s.players.get(w.owner.number).workers[w.number]);
                }
            }
            return s;
        }

        private void copyWorker(Worker from, Worker to, State s) {
            to.size = from.size;
            to.task = from.task == null ? null : s.tasks.get(tasks.indexOf(from.task));
            to.above = from.above;
            to.works = from.works;
            to.waiting = from.waiting;
            to.flips = from.flips;
        }

        Player come() {
            Player p = new Player();
            p.number = players.size();
            for (int i = 0; i < 3; i++) {
                p.workers[i] = new Worker();
                p.workers[i].size = new int[] {30, 60, 90}[i];
                p.workers[i].number = i;
                p.workers[i].owner = p;
            }
            players.add(p);
            return p;
        }

        List<Worker> workers() {
            List<Worker> all = new ArrayList<>();
            for (Player p : players) {
                all.addAll(Arrays.asList(p.workers));
            }
            return all;
        }

        List<Worker> second() {
            List<Worker> ended = new ArrayList<>();
            for (Worker w : workers()) {
                if (w.above == 0) {
                    w.waiting++;
                } else {
                    w.above--;
                    if (w.above == 0) {
                        ended.add(w);
                    }
                }
            }
            seconds++;
            return settle(ended);
        }

        /** Waves: what ends by the flips of one wave is the next wave. */
        List<Worker> settle(List<Worker> wave) {
            List<Worker> all = new ArrayList<>();
            while (!wave.isEmpty()) {
                List<Worker> behind = new ArrayList<>();
                for (Worker w : wave) {
                    all.add(w);
                    w.works++;
                    w.task.works++;
                    int[] gain = goods(w.task.gain);
                    for (int g = 0; g < 3; g++) {
                        for (int i = 0; i < gain[g]; i++) {
                            if (w.owner.goods[g] < 99) {
                                w.owner.goods[g]++;
                            } else {
                                lost++;
                            }
                        }
                    }
                    if (w.task.effect == 2) {
                        w.owner.points++;
                    }
                    if (w.task.effect == 1) {
                        for (Worker other : workers()) {
                            if (other != w && other.task != null && other.above > 0) {
                                turn(other);
                                if (other.above == 0) {
                                    behind.add(other);
                                }
                            }
                        }
                    }
                }
                wave = behind;
            }
            return all;
        }

        void turn(Worker w) {
            w.above = w.size - w.above;
            w.flips++;
        }
    }

    State now = new State();
    private Deque<State> history = new ArrayDeque<>();
    private String text = "";

    private static int[] goods(int told) {
        String digits = String.format("%03d", told);
        return new int[] {digits.charAt(0) - '0', digits.charAt(1) - '0', digits.charAt(2) - '0'};
    }

    private static boolean has(Player p, int price) {
        int[] amounts = goods(price);
        return p.goods[0] >= amounts[0] && p.goods[1] >= amounts[1] && p.goods[2] >= amounts[2];
    }

    private static void pay(Player p, int price) {
        for (int g = 0; g < 3; g++) {
            p.goods[g] -= goods(price)[g];
        }
    }

    private static boolean out(int value, int from, int to) {
        return value < from || value > to;
    }

    private boolean noPlayer(int p) {
        return out(p, 0, now.players.size() - 1);
    }

    private boolean noTask(int t) {
        return out(t, 0, now.tasks.size() - 1);
    }

    private boolean noContract(int c) {
        return out(c, 0, now.contracts.size() - 1);
    }

    private boolean noWorker(int p, int w) {
        return noPlayer(p) || out(w, 0, 2);
    }

    private Worker worker(int p, int w) {
        return now.players.get(p).workers[w];
    }

    private void record() {
        history.push(now.copy());
        if (history.size() > 4) {
            history.removeLast();
        }
    }

    int player() {
        if (now.players.size() == 4) {
            return Due.LIMIT;
        }
        record();
        return now.come().number;
    }

    int size(int p, int w, int size) {
        if (noWorker(p, w) || out(size, 5, 300)) {
            return Due.INVALID;
        }
        if (worker(p, w).above > 0) {
            return Due.IMPOSSIBLE;
        }
        record();
        int was = worker(p, w).size;
        worker(p, w).size = size;
        return was;
    }

    int task(int places, int cost, int gain, int effect) {
        if (out(places, 1, 3) || out(cost, 0, 999) || out(gain, 0, 999) || out(effect, 0, 2)) {
            return Due.INVALID;
        }
        if (now.tasks.size() == 8) {
            return Due.LIMIT;
        }
        record();
        Task t = new Task();
        t.places = places;
        t.cost = cost;
        t.gain = gain;
        t.effect = effect;
        now.tasks.add(t);
        return now.tasks.size() - 1;
    }

    int contract(int price, int points) {
        if (out(price, 0, 999) || out(points, 1, 20)) {
            return Due.INVALID;
        }
        if (now.contracts.size() == 6) {
            return Due.LIMIT;
        }
        record();
        now.contracts.add(new int[] {price, points});
        return now.contracts.size() - 1;
    }

    private static boolean can(Worker w, Task t) {
        return w.above == 0 && (w.task == t || t.on.size() < t.places) && has(w.owner, t.cost);
    }

    private static void start(Worker w, Task t) {
        pay(w.owner, t.cost);
        if (w.task != null) {
            w.task.on.remove(w);
        }
        t.on.add(w);
        w.task = t;
        w.above = w.size;
    }

    int put(int p, int w, int t) {
        if (noWorker(p, w) || noTask(t)) {
            return Due.INVALID;
        }
        if (!can(worker(p, w), now.tasks.get(t))) {
            return Due.IMPOSSIBLE;
        }
        record();
        start(worker(p, w), now.tasks.get(t));
        return now.tasks.get(t).places - now.tasks.get(t).on.size();
    }

    int home(int p, int w) {
        if (noWorker(p, w)) {
            return Due.INVALID;
        }
        if (worker(p, w).above > 0 || worker(p, w).task == null) {
            return Due.IMPOSSIBLE;
        }
        record();
        Worker goes = worker(p, w);
        int t = now.tasks.indexOf(goes.task);
        goes.task.on.remove(goes);
        goes.task = null;
        return t;
    }

    int flip(int p, int w) {
        if (noWorker(p, w)) {
            return Due.INVALID;
        }
        if (worker(p, w).above == 0) {
            return Due.IMPOSSIBLE;
        }
        record();
        Worker flipped = worker(p, w);
        now.turn(flipped);
        if (flipped.above == 0) {
            List<Worker> wave = new ArrayList<>();
            wave.add(flipped);
            now.settle(wave);
        }
        return flipped.above;
    }

    int buy(int p, int c) {
        if (noPlayer(p) || noContract(c)) {
            return Due.INVALID;
        }
        Player buyer = now.players.get(p);
        if (!has(buyer, now.contracts.get(c)[0])) {
            return Due.IMPOSSIBLE;
        }
        record();
        buyer = now.players.get(p);
        int[] bought = now.contracts.remove(c);
        pay(buyer, bought[0]);
        buyer.points += bought[1];
        return buyer.points;
    }

    int pass(int seconds) {
        if (out(seconds, 1, 600)) {
            return Due.INVALID;
        }
        if (now.seconds + seconds > 9999) {
            return Due.LIMIT;
        }
        record();
        int works = 0;
        for (int i = 0; i < seconds; i++) {
            works += now.second().size();
        }
        return works;
    }

    private static int sum(int[] all) {
        return all[0] + all[1] + all[2];
    }

    int playerOf(int p, int what) {
        if (noPlayer(p) || out(what, 0, 7)) {
            return Due.INVALID;
        }
        Player it = now.players.get(p);
        if (what < 3) {
            return it.goods[what];
        }
        if (what == 3) {
            return it.points;
        }
        if (what == 7) {
            return untilOut(p);
        }
        int sum = 0;
        for (Worker w : it.workers) {
            sum += what == 4 ? w.works : what == 5 ? (w.above == 0 ? 1 : 0) : w.waiting;
        }
        return sum;
    }

    private int untilOut(int p) {
        if (playerOf(p, 5) == 3) {
            return Due.MISSING;
        }
        State s = now.copy();
        for (int passed = 1; passed <= 100000; passed++) {
            for (Worker w : s.second()) {
                if (w.owner.number == p) {
                    return passed;
                }
            }
        }
        throw new IllegalStateException("the sand never runs out");
    }

    int workerOf(int p, int w, int what) {
        if (noWorker(p, w) || out(what, 0, 5)) {
            return Due.INVALID;
        }
        Worker it = worker(p, w);
        if (what == 1) {
            return it.task == null ? Due.MISSING : now.tasks.indexOf(it.task);
        }
        return new int[] {it.size, 0, it.above, it.works, it.waiting, it.flips}[what];
    }

    int taskOf(int t, int what) {
        if (noTask(t) || out(what, 0, 5)) {
            return Due.INVALID;
        }
        Task it = now.tasks.get(t);
        int left = it.places - it.on.size();
        return new int[] {it.places, it.cost, it.gain, it.effect, left, it.works}[what];
    }

    int on(int t, int place) {
        if (noTask(t) || place < 0) {
            return Due.INVALID;
        }
        List<Worker> on = now.tasks.get(t).on;
        return place >= on.size() ? Due.MISSING : told(on.get(place));
    }

    private static int told(Worker w) {
        return 10 * w.owner.number + w.number;
    }

    int contractOf(int c, int what) {
        if (noContract(c) || out(what, 0, 2)) {
            return Due.INVALID;
        }
        if (what < 2) {
            return now.contracts.get(c)[what];
        }
        int set = 0;
        for (Player p : now.players) {
            set += has(p, now.contracts.get(c)[0]) ? (int) Math.pow(2, p.number) : 0;
        }
        return set;
    }

    int next(int what) {
        if (out(what, 0, 1)) {
            return Due.INVALID;
        }
        State s = now.copy();
        for (int passed = 1; passed <= 300; passed++) {
            List<Worker> ended = s.second();
            if (!ended.isEmpty()) {
                return what == 0 ? told(ended.get(0)) : passed;
            }
        }
        return Due.MISSING;
    }

    int would(int p, int seconds, int what) {
        if (noPlayer(p) || out(seconds, 0, 600) || out(what, 0, 4)) {
            return Due.INVALID;
        }
        State s = now.copy();
        int works = 0;
        for (int i = 0; i < seconds; i++) {
            for (Worker w : s.second()) {
                works += w.owner.number == p ? 1 : 0;
            }
        }
        Player it = s.players.get(p);
        return what == 4 ? works : what == 3 ? it.points : it.goods[what];
    }

    int best(int p, int w, int what) {
        if (noWorker(p, w) || out(what, 0, 1)) {
            return Due.INVALID;
        }
        if (worker(p, w).above > 0) {
            return Due.IMPOSSIBLE;
        }
        List<Task> could = new ArrayList<>();
        for (Task t : now.tasks) {
            if (can(worker(p, w), t)) {
                could.add(t);
            }
        }
        if (could.isEmpty()) {
            return Due.MISSING;
        }
        // Of several that are equal the first is taken.
        Task best = Collections.min(could, Comparator.comparingInt(t -> -difference(t)));
        return what == 0 ? now.tasks.indexOf(best) : difference(best) + 100;
    }

    private static int difference(Task t) {
        return sum(goods(t.gain)) - sum(goods(t.cost));
    }

    int earns(int p, int c, int t) {
        if (noPlayer(p) || noContract(c) || noTask(t)) {
            return Due.INVALID;
        }
        State s = now.copy();
        for (int passed = 0; passed <= 600; passed++) {
            if (has(s.players.get(p), s.contracts.get(c)[0])) {
                return passed;
            }
            for (Worker w : s.players.get(p).workers) {
                if (can(w, s.tasks.get(t))) {
                    start(w, s.tasks.get(t));
                }
            }
            s.second();
        }
        return Due.MISSING;
    }

    int busy(int p, int w) {
        if (noWorker(p, w)) {
            return Due.INVALID;
        }
        if (now.seconds == 0) {
            return Due.MISSING;
        }
        float worked = now.seconds - worker(p, w).waiting;
        return Float.floatToIntBits(worked / (float) now.seconds);
    }

    int count(int what) {
        int works = 0;
        int flips = 0;
        for (Worker w : now.workers()) {
            works += w.works;
            flips += w.flips;
        }
        switch (what) {
            case 0: return now.players.size();
            case 1: return now.tasks.size();
            case 2: return now.contracts.size();
            case 3: return now.seconds;
            case 4: return works;
            case 5: return flips;
            case 6: return ahead();
            case 7: return now.lost;
            case 8: return history.size();
            case 9: return text.length();
            default: return Due.INVALID;
        }
    }

    private int ahead() {
        if (now.players.isEmpty()) {
            return Due.MISSING;
        }
        Comparator<Player> order = Comparator.comparingInt((Player p) -> -p.points)
                .thenComparingInt(p -> -sum(p.goods)).thenComparingInt(p -> p.number);
        return Collections.min(now.players, order).number;
    }

    int undo() {
        if (history.isEmpty()) {
            return Due.IMPOSSIBLE;
        }
        now = history.pop();
        return history.size();
    }

    int type(int character) {
        if (out(character, 32, 126)) {
            return Due.INVALID;
        }
        if (text.length() == 60) {
            return Due.LIMIT;
        }
        text += (char) character;
        return text.length();
    }

    int clearText() {
        int had = text.length();
        text = "";
        return had;
    }

    private static final String NUMBER = "(\\d{1,3})";
    private static final Pattern ORDER = Pattern.compile("([hcb])N,N;|([s])N;|([w])N,N,N;|([t])N,N,N,N;"
            .replace("N", NUMBER));

    /** The position, reason and cause, or how many orders there are; it does them meanwhile. */
    private int[] run() {
        int position = 0;
        int orders = 0;
        while (position < text.length()) {
            int end = position;
            boolean whole = false;
            while (end < text.length() && !whole) {
                Matcher m = ORDER.matcher(text.substring(position, end + 1));
                whole = m.matches();
                if (!whole && !m.hitEnd()) {
                    break;
                }
                end++;
            }
            if (!whole) {
                return new int[] {position, 1, end - position};
            }
            int answer = order(text.substring(position, end));
            if (answer < 0) {
                return new int[] {position, 2, answer};
            }
            orders++;
            position = end;
        }
        return new int[] {orders};
    }

    private int order(String told) {
        String[] parts = told.substring(1, told.length() - 1).split(",");
        int[] n = new int[4];
        for (int i = 0; i < parts.length; i++) {
            n[i] = Integer.parseInt(parts[i]);
        }
        switch (told.charAt(0)) {
            case 't': return task(n[0], n[1], n[2], n[3]);
            case 'w': return put(n[0], n[1], n[2]);
            case 'h': return home(n[0], n[1]);
            case 'c': return contract(n[0], n[1]);
            case 'b': return buy(n[0], n[1]);
            default: return pass(n[0]);
        }
    }

    /** Runs the text on a copy of everything, which it leaves in place if it is asked to. */
    private int[] attempt(boolean keep) {
        State before = now.copy();
        Deque<State> states = history;
        history = new ArrayDeque<>();
        int[] result = run();
        history = states;
        if (keep && result.length == 1) {
            history.push(before);
            if (history.size() > 4) {
                history.removeLast();
            }
        } else {
            now = before;
        }
        return result;
    }

    int fault(int what) {
        if (out(what, 0, 2)) {
            return Due.INVALID;
        }
        int[] result = attempt(false);
        return result.length == 1 ? Due.MISSING : result[what];
    }

    int play() {
        int[] result = attempt(true);
        return result.length == 1 ? result[0] : Due.IMPOSSIBLE;
    }
}
