/**
 * A game of workers that are hourglasses: they are put on tasks, and can move only when their sand
 * is out. Calls answer with a number of at least 0, or with one of the four error codes.
 *
 * <p>Each change is tried on a second game and kept only if it is no error, so that a call that
 * returns an error changes nothing. All rows are made by the constructor; no call makes an object.
 */
public final class SandWorkers {
    /** An argument is out of its range, or there is no such player, worker, task or contract. */
    public static final int INVALID_ARGUMENT = -1000001;
    /** The call is not possible in the present state. */
    public static final int NOT_POSSIBLE = -1000002;
    /** A fixed limit has been reached. */
    public static final int LIMIT_REACHED = -1000003;
    /** There is no such value. */
    public static final int NOT_FOUND = -1000004;

    private static final int PLAYERS = 4;
    private static final int EACH = 3;
    private static final int WORKERS = PLAYERS * EACH;
    private static final int GOODS = 3;
    private static final int TASKS = 8;
    private static final int CONTRACTS = 6;
    private static final int STATES = 4;
    private static final int SIGNS = 60;

    private static final int GOODS_AT_FIRST = 5;
    private static final int MOST_OF_A_GOOD = 99;
    private static final int MOST_TOLD = 999;
    private static final int LEAST_SIZE = 5;
    private static final int MOST_SIZE = 300;
    private static final int MOST_PLACES = 3;
    private static final int MOST_POINTS = 20;
    private static final int MOST_SECONDS = 600;
    private static final int LATEST = 9999;

    private static final int EFFECT_FLIP = 1;
    private static final int EFFECT_POINT = 2;
    private static final int LAST_EFFECT = EFFECT_POINT;

    private static final int HOME = -1;
    private static final int NONE = -1;
    /** More seconds than any sand lasts or any call asks for. */
    private static final int NEVER = 1000000;

    private static final int REASON_FORM = 1;
    private static final int REASON_CALL = 2;
    private static final int NUMBERS_OF_AN_ORDER = 4;
    private static final int DIGITS = 3;

    private static final int FLOAT_BIAS = 127;
    private static final int FLOAT_ONE = 8388608;

    private final Game game;
    private final Game trial;
    private final History history;
    private final Orders orders;

    public SandWorkers() {
        game = new Game();
        trial = new Game();
        history = new History();
        orders = new Orders();
    }

    // ---- players, tasks, contracts

    public int player() {
        startTrial();
        return keepTrial(trial.addPlayer());
    }

    public int size(int player, int worker, int size) {
        startTrial();
        return keepTrial(trial.setSize(player, worker, size));
    }

    public int task(int places, int cost, int gain, int effect) {
        startTrial();
        return keepTrial(trial.addTask(places, cost, gain, effect));
    }

    public int contract(int price, int points) {
        startTrial();
        return keepTrial(trial.layContract(price, points));
    }

    // ---- moves

    public int put(int player, int worker, int task) {
        startTrial();
        return keepTrial(trial.putWorker(player, worker, task));
    }

    public int home(int player, int worker) {
        startTrial();
        return keepTrial(trial.takeHome(player, worker));
    }

    public int flip(int player, int worker) {
        startTrial();
        return keepTrial(trial.flipByHand(player, worker));
    }

    public int buy(int player, int contract) {
        startTrial();
        return keepTrial(trial.buyContract(player, contract));
    }

    public int pass(int seconds) {
        startTrial();
        return keepTrial(trial.letPass(seconds));
    }

    // ---- what there is

    public int playerOf(int player, int what) {
        if (!game.hasPlayer(player) || !within(what, 0, 7)) {
            return INVALID_ARGUMENT;
        }
        switch (what) {
            case 3:
                return game.players.points[player];
            case 4:
                return game.glasses.worksOf(player);
            case 5:
                return game.glasses.outOf(player);
            case 6:
                return game.glasses.waitingOf(player);
            case 7:
                startTrial();
                return trial.untilOneIsOut(player);
            default:
                return game.players.amountOf(player, what);
        }
    }

    public int workerOf(int player, int worker, int what) {
        if (!game.hasWorker(player, worker) || !within(what, 0, 5)) {
            return INVALID_ARGUMENT;
        }
        int glass = glassOf(player, worker);
        Glasses glasses = game.glasses;
        switch (what) {
            case 0:
                return glasses.size[glass];
            case 1:
                return glasses.task[glass] == HOME ? NOT_FOUND : glasses.task[glass];
            case 2:
                return glasses.above[glass];
            case 3:
                return glasses.works[glass];
            case 4:
                return glasses.waiting[glass];
            default:
                return glasses.flips[glass];
        }
    }

    public int taskOf(int task, int what) {
        if (!game.hasTask(task) || !within(what, 0, 5)) {
            return INVALID_ARGUMENT;
        }
        switch (what) {
            case 0:
                return game.tasks.places[task];
            case 1:
                return game.tasks.cost[task];
            case 2:
                return game.tasks.gain[task];
            case 3:
                return game.tasks.effect[task];
            case 4:
                return game.placesLeft(task);
            default:
                return game.tasks.works[task];
        }
    }

    public int on(int task, int place) {
        if (!game.hasTask(task) || place < 0) {
            return INVALID_ARGUMENT;
        }
        int glass = game.glasses.atPlace(task, place);
        return glass == NONE ? NOT_FOUND : toldOf(glass);
    }

    public int contractOf(int contract, int what) {
        if (!game.hasContract(contract) || !within(what, 0, 2)) {
            return INVALID_ARGUMENT;
        }
        int price = game.contracts.price[contract];
        switch (what) {
            case 0:
                return price;
            case 1:
                return game.contracts.points[contract];
            default:
                return game.players.allWhoHave(price);
        }
    }

    // ---- what would be

    public int next(int what) {
        if (!within(what, 0, 1)) {
            return INVALID_ARGUMENT;
        }
        int glass = game.glasses.nextOut();
        if (glass == NONE) {
            return NOT_FOUND;
        }
        return what == 0 ? toldOf(glass) : game.glasses.above[glass];
    }

    public int would(int player, int seconds, int what) {
        if (!game.hasPlayer(player) || !within(seconds, 0, MOST_SECONDS) || !within(what, 0, 4)) {
            return INVALID_ARGUMENT;
        }
        startTrial();
        trial.advance(seconds);
        switch (what) {
            case 3:
                return trial.players.points[player];
            case 4:
                return trial.glasses.worksOf(player) - game.glasses.worksOf(player);
            default:
                return trial.players.amountOf(player, what);
        }
    }

    public int best(int player, int worker, int what) {
        if (!game.hasWorker(player, worker) || !within(what, 0, 1)) {
            return INVALID_ARGUMENT;
        }
        int glass = glassOf(player, worker);
        if (!game.glasses.isOut(glass)) {
            return NOT_POSSIBLE;
        }
        int task = game.bestTask(glass);
        if (task == NONE) {
            return NOT_FOUND;
        }
        return what == 0 ? task : game.tasks.differenceOf(task) + 100;
    }

    public int earns(int player, int contract, int task) {
        if (!game.hasPlayer(player) || !game.hasContract(contract) || !game.hasTask(task)) {
            return INVALID_ARGUMENT;
        }
        startTrial();
        return trial.untilAffordable(player, game.contracts.price[contract], task);
    }

    public int busy(int player, int worker) {
        if (!game.hasWorker(player, worker)) {
            return INVALID_ARGUMENT;
        }
        int seconds = game.seconds;
        if (seconds <= 0) {
            return NOT_FOUND;
        }
        int worked = seconds - game.glasses.waiting[glassOf(player, worker)];
        return bitsOfShare((float) worked / (float) seconds);
    }

    public int count(int what) {
        switch (what) {
            case 0:
                return game.players.count;
            case 1:
                return game.tasks.count;
            case 2:
                return game.contracts.count;
            case 3:
                return game.seconds;
            case 4:
                return game.glasses.allWorks();
            case 5:
                return game.glasses.allFlips();
            case 6:
                return game.players.ahead();
            case 7:
                return game.players.lost;
            case 8:
                return history.count;
            case 9:
                return orders.length;
            default:
                return INVALID_ARGUMENT;
        }
    }

    public int undo() {
        return history.restore(game);
    }

    // ---- texts

    public int type(int character) {
        if (!within(character, 32, 126)) {
            return INVALID_ARGUMENT;
        }
        return orders.append(character);
    }

    public int clearText() {
        return orders.clear();
    }

    public int fault(int what) {
        if (!within(what, 0, 2)) {
            return INVALID_ARGUMENT;
        }
        startTrial();
        if (orders.obeyAll(trial)) {
            return NOT_FOUND;
        }
        switch (what) {
            case 0:
                return orders.position;
            case 1:
                return orders.reason;
            default:
                return orders.cause;
        }
    }

    public int play() {
        startTrial();
        if (!orders.obeyAll(trial)) {
            return NOT_POSSIBLE;
        }
        return keepTrial(orders.obeyed);
    }

    // ---- helpers

    private void startTrial() {
        trial.copyFrom(game);
    }

    /** Makes the trial the game if its answer is no error; every error code is below 0. */
    private int keepTrial(int answer) {
        if (answer >= 0) {
            history.record(game);
            game.copyFrom(trial);
        }
        return answer;
    }

    private static boolean within(int value, int least, int most) {
        return value >= least && value <= most;
    }

    /** The amount of a good in goods that are told together as a number from 0 to 999. */
    private static int amountIn(int told, int good) {
        switch (good) {
            case 0:
                return told / 100;
            case 1:
                return told / 10 % 10;
            default:
                return told % 10;
        }
    }

    private static int allAmountsIn(int told) {
        return amountIn(told, 0) + amountIn(told, 1) + amountIn(told, 2);
    }

    private static int glassOf(int player, int worker) {
        return EACH * player + worker;
    }

    private static int playerWith(int glass) {
        return glass / EACH;
    }

    /** A worker as calls tell it: 10 times the player plus the worker. */
    private static int toldOf(int glass) {
        return 10 * playerWith(glass) + glass % EACH;
    }

    /** The bits of a float from 0 to 1; the smallest above 0 that is asked is 1 / 9999. */
    private static int bitsOfShare(float share) {
        if (share <= 0f) {
            return 0;
        }
        int exponent = FLOAT_BIAS;
        float scaled = share;
        // Doubling a float loses nothing.
        while (scaled < 1f && exponent > 1) {
            scaled = scaled * 2f;
            exponent--;
        }
        int fraction = (int) (scaled * (float) FLOAT_ONE) - FLOAT_ONE;
        return exponent * FLOAT_ONE + fraction;
    }

    private static void copyRow(int[] from, int[] to) {
        System.arraycopy(from, 0, to, 0, Math.min(from.length, to.length));
    }

    /** The players with their goods (3 times the player plus the good) and points. */
    private static final class Players {
        int count;
        int lost;
        final int[] goods;
        final int[] points;

        Players() {
            goods = new int[PLAYERS * GOODS];
            points = new int[PLAYERS];
            for (int i = 0; i < goods.length; i++) {
                goods[i] = GOODS_AT_FIRST;
            }
        }

        void copyFrom(Players other) {
            count = other.count;
            lost = other.lost;
            copyRow(other.goods, goods);
            copyRow(other.points, points);
        }

        int amountOf(int player, int good) {
            return goods[GOODS * player + good];
        }

        boolean have(int player, int price) {
            for (int good = 0; good < GOODS; good++) {
                if (amountOf(player, good) < amountIn(price, good)) {
                    return false;
                }
            }
            return true;
        }

        int allWhoHave(int price) {
            int set = 0;
            for (int player = 0; player < count && player < PLAYERS; player++) {
                if (have(player, price)) {
                    set |= 1 << player;
                }
            }
            return set;
        }

        void pay(int player, int price) {
            for (int good = 0; good < GOODS; good++) {
                goods[GOODS * player + good] -= amountIn(price, good);
            }
        }

        void gain(int player, int gain) {
            for (int good = 0; good < GOODS; good++) {
                int amount = amountOf(player, good) + amountIn(gain, good);
                int kept = Math.min(amount, MOST_OF_A_GOOD);
                goods[GOODS * player + good] = kept;
                lost += amount - kept;
            }
        }

        int allGoodsOf(int player) {
            return amountOf(player, 0) + amountOf(player, 1) + amountOf(player, 2);
        }

        boolean isAheadOf(int player, int other) {
            if (points[player] != points[other]) {
                return points[player] > points[other];
            }
            return allGoodsOf(player) > allGoodsOf(other);
        }

        int ahead() {
            if (count == 0) {
                return NOT_FOUND;
            }
            int first = 0;
            for (int player = 1; player < count && player < PLAYERS; player++) {
                if (isAheadOf(player, first)) {
                    first = player;
                }
            }
            return first;
        }
    }

    /** The hourglasses of all players: the glass 3 times the player plus the worker. */
    private static final class Glasses {
        /** How many puts there were so far: it numbers them, and so tells who was put first. */
        int puts;
        final int[] size;
        final int[] task;
        final int[] above;
        final int[] turn;
        final int[] works;
        final int[] waiting;
        final int[] flips;

        Glasses() {
            size = new int[WORKERS];
            task = new int[WORKERS];
            above = new int[WORKERS];
            turn = new int[WORKERS];
            works = new int[WORKERS];
            waiting = new int[WORKERS];
            flips = new int[WORKERS];
            for (int glass = 0; glass < WORKERS; glass++) {
                size[glass] = 30 * (glass % EACH + 1);
                task[glass] = HOME;
            }
        }

        void copyFrom(Glasses other) {
            puts = other.puts;
            copyRow(other.size, size);
            copyRow(other.task, task);
            copyRow(other.above, above);
            copyRow(other.turn, turn);
            copyRow(other.works, works);
            copyRow(other.waiting, waiting);
            copyRow(other.flips, flips);
        }

        boolean isOut(int glass) {
            return above[glass] == 0;
        }

        void start(int glass, int onTask) {
            task[glass] = onTask;
            above[glass] = size[glass];
            turn[glass] = puts;
            puts++;
        }

        void flipOne(int glass) {
            above[glass] = size[glass] - above[glass];
            flips[glass]++;
        }

        int numberOn(int someTask) {
            int number = 0;
            for (int glass = 0; glass < WORKERS; glass++) {
                if (task[glass] == someTask) {
                    number++;
                }
            }
            return number;
        }

        /** How many glasses were put on the task of this one ahead of it. */
        private int aheadOnTask(int glass) {
            int number = 0;
            for (int other = 0; other < WORKERS; other++) {
                if (task[other] == task[glass] && turn[other] < turn[glass]) {
                    number++;
                }
            }
            return number;
        }

        int atPlace(int someTask, int place) {
            for (int glass = 0; glass < WORKERS; glass++) {
                if (task[glass] == someTask && aheadOnTask(glass) == place) {
                    return glass;
                }
            }
            return NONE;
        }

        /** The glass whose sand is out next, of several the lowest. */
        int nextOut() {
            int next = NONE;
            for (int glass = 0; glass < WORKERS; glass++) {
                if (!isOut(glass) && (next == NONE || above[glass] < above[next])) {
                    next = glass;
                }
            }
            return next;
        }

        int untilNextOut() {
            int next = nextOut();
            return next == NONE ? NEVER : above[next];
        }

        int outOf(int player) {
            int number = 0;
            for (int worker = 0; worker < EACH; worker++) {
                if (isOut(glassOf(player, worker))) {
                    number++;
                }
            }
            return number;
        }

        int worksOf(int player) {
            return sumOf(works, player);
        }

        int waitingOf(int player) {
            return sumOf(waiting, player);
        }

        int allWorks() {
            return sumOfAll(works);
        }

        int allFlips() {
            return sumOfAll(flips);
        }

        private static int sumOf(int[] row, int player) {
            int sum = 0;
            for (int worker = 0; worker < EACH; worker++) {
                sum += row[glassOf(player, worker)];
            }
            return sum;
        }

        private static int sumOfAll(int[] row) {
            int sum = 0;
            for (int glass = 0; glass < WORKERS; glass++) {
                sum += row[glass];
            }
            return sum;
        }
    }

    private static final class Tasks {
        int count;
        final int[] places;
        final int[] cost;
        final int[] gain;
        final int[] effect;
        final int[] works;

        Tasks() {
            places = new int[TASKS];
            cost = new int[TASKS];
            gain = new int[TASKS];
            effect = new int[TASKS];
            works = new int[TASKS];
        }

        void copyFrom(Tasks other) {
            count = other.count;
            copyRow(other.places, places);
            copyRow(other.cost, cost);
            copyRow(other.gain, gain);
            copyRow(other.effect, effect);
            copyRow(other.works, works);
        }

        int differenceOf(int task) {
            return allAmountsIn(gain[task]) - allAmountsIn(cost[task]);
        }
    }

    private static final class Contracts {
        int count;
        final int[] price;
        final int[] points;

        Contracts() {
            price = new int[CONTRACTS];
            points = new int[CONTRACTS];
        }

        void copyFrom(Contracts other) {
            count = other.count;
            copyRow(other.price, price);
            copyRow(other.points, points);
        }

        void remove(int contract) {
            for (int i = contract; i < count - 1 && i < CONTRACTS - 1; i++) {
                price[i] = price[i + 1];
                points[i] = points[i + 1];
            }
            count--;
        }
    }

    /** One state of the game, with its rules. */
    private static final class Game {
        int seconds;
        final Players players;
        final Glasses glasses;
        final Tasks tasks;
        final Contracts contracts;
        /** The glasses whose work is done at this moment, in the order in which it takes effect. */
        private final int[] due;
        private int dueCount;

        Game() {
            players = new Players();
            glasses = new Glasses();
            tasks = new Tasks();
            contracts = new Contracts();
            due = new int[WORKERS];
        }

        // No work is due between two calls, so that there is nothing of it to copy.
        void copyFrom(Game other) {
            seconds = other.seconds;
            players.copyFrom(other.players);
            glasses.copyFrom(other.glasses);
            tasks.copyFrom(other.tasks);
            contracts.copyFrom(other.contracts);
        }

        boolean hasPlayer(int player) {
            return within(player, 0, players.count - 1);
        }

        boolean hasWorker(int player, int worker) {
            return hasPlayer(player) && within(worker, 0, EACH - 1);
        }

        boolean hasTask(int task) {
            return within(task, 0, tasks.count - 1);
        }

        boolean hasContract(int contract) {
            return within(contract, 0, contracts.count - 1);
        }

        int addPlayer() {
            if (players.count >= PLAYERS) {
                return LIMIT_REACHED;
            }
            int player = players.count;
            players.count++;
            return player;
        }

        int setSize(int player, int worker, int size) {
            if (!hasWorker(player, worker) || !within(size, LEAST_SIZE, MOST_SIZE)) {
                return INVALID_ARGUMENT;
            }
            int glass = glassOf(player, worker);
            if (!glasses.isOut(glass)) {
                return NOT_POSSIBLE;
            }
            int before = glasses.size[glass];
            glasses.size[glass] = size;
            return before;
        }

        int addTask(int places, int cost, int gain, int effect) {
            if (!within(places, 1, MOST_PLACES) || !within(cost, 0, MOST_TOLD)
                    || !within(gain, 0, MOST_TOLD) || !within(effect, 0, LAST_EFFECT)) {
                return INVALID_ARGUMENT;
            }
            if (tasks.count >= TASKS) {
                return LIMIT_REACHED;
            }
            int task = tasks.count;
            tasks.places[task] = places;
            tasks.cost[task] = cost;
            tasks.gain[task] = gain;
            tasks.effect[task] = effect;
            tasks.count++;
            return task;
        }

        int layContract(int price, int points) {
            if (!within(price, 0, MOST_TOLD) || !within(points, 1, MOST_POINTS)) {
                return INVALID_ARGUMENT;
            }
            if (contracts.count >= CONTRACTS) {
                return LIMIT_REACHED;
            }
            int contract = contracts.count;
            contracts.price[contract] = price;
            contracts.points[contract] = points;
            contracts.count++;
            return contract;
        }

        int placesLeft(int task) {
            return tasks.places[task] - glasses.numberOn(task);
        }

        boolean canBePut(int glass, int task) {
            boolean hasPlace = glasses.task[glass] == task || placesLeft(task) > 0;
            return glasses.isOut(glass) && hasPlace
                    && players.have(playerWith(glass), tasks.cost[task]);
        }

        int putWorker(int player, int worker, int task) {
            if (!hasWorker(player, worker) || !hasTask(task)) {
                return INVALID_ARGUMENT;
            }
            int glass = glassOf(player, worker);
            if (!canBePut(glass, task)) {
                return NOT_POSSIBLE;
            }
            players.pay(player, tasks.cost[task]);
            glasses.start(glass, task);
            return placesLeft(task);
        }

        int takeHome(int player, int worker) {
            if (!hasWorker(player, worker)) {
                return INVALID_ARGUMENT;
            }
            int glass = glassOf(player, worker);
            int task = glasses.task[glass];
            if (!glasses.isOut(glass) || task == HOME) {
                return NOT_POSSIBLE;
            }
            glasses.task[glass] = HOME;
            return task;
        }

        int flipByHand(int player, int worker) {
            if (!hasWorker(player, worker)) {
                return INVALID_ARGUMENT;
            }
            int glass = glassOf(player, worker);
            if (glasses.isOut(glass)) {
                return NOT_POSSIBLE;
            }
            glasses.flipOne(glass);
            addIfDue(glass);
            finishDue();
            return glasses.above[glass];
        }

        int buyContract(int player, int contract) {
            if (!hasPlayer(player) || !hasContract(contract)) {
                return INVALID_ARGUMENT;
            }
            int price = contracts.price[contract];
            if (!players.have(player, price)) {
                return NOT_POSSIBLE;
            }
            players.pay(player, price);
            players.points[player] += contracts.points[contract];
            contracts.remove(contract);
            return players.points[player];
        }

        int letPass(int span) {
            if (!within(span, 1, MOST_SECONDS)) {
                return INVALID_ARGUMENT;
            }
            if (seconds + span > LATEST) {
                return LIMIT_REACHED;
            }
            return advance(span);
        }

        /** Lets seconds pass without a limit; tells how many works are done in them. */
        int advance(int span) {
            int done = 0;
            int passed = 0;
            while (passed < span) {
                // Within a step no sand runs out but at its end, so that it is done at once.
                int step = Math.max(1, Math.min(span - passed, glasses.untilNextOut()));
                for (int glass = 0; glass < EACH * players.count && glass < WORKERS; glass++) {
                    if (glasses.isOut(glass)) {
                        glasses.waiting[glass] += step;
                    } else {
                        glasses.above[glass] = Math.max(0, glasses.above[glass] - step);
                        addIfDue(glass);
                    }
                }
                seconds += step;
                passed += step;
                done += finishDue();
            }
            return done;
        }

        /** Is asked for a glass that had sand above until now. */
        private void addIfDue(int glass) {
            if (glasses.above[glass] == 0 && dueCount < WORKERS) {
                due[dueCount] = glass;
                dueCount++;
            }
        }

        /** Finishes what is due, and what becomes due by that; tells how many works that were. */
        private int finishDue() {
            int done = 0;
            // A glass whose sand is out is not flipped, so each of them is due once at most.
            while (done < dueCount && done < WORKERS) {
                int glass = due[done];
                int task = glasses.task[glass];
                done++;
                if (hasTask(task)) {
                    glasses.works[glass]++;
                    tasks.works[task]++;
                    players.gain(playerWith(glass), tasks.gain[task]);
                    takeEffect(tasks.effect[task], playerWith(glass));
                }
            }
            dueCount = 0;
            return done;
        }

        private void takeEffect(int effect, int player) {
            if (effect == EFFECT_POINT) {
                players.points[player]++;
            }
            for (int glass = 0; effect == EFFECT_FLIP && glass < WORKERS; glass++) {
                if (glasses.above[glass] > 0) {
                    glasses.flipOne(glass);
                    addIfDue(glass);
                }
            }
        }

        /** Goes on until a worker of the player has its sand out; tells how long that takes. */
        int untilOneIsOut(int player) {
            if (glasses.outOf(player) == EACH) {
                return NOT_FOUND;
            }
            int before = glasses.worksOf(player);
            int passed = 0;
            for (int i = 0; i < WORKERS && glasses.worksOf(player) == before; i++) {
                int step = glasses.untilNextOut();
                advance(step);
                passed += step;
            }
            return passed;
        }

        int bestTask(int glass) {
            int best = NONE;
            for (int task = 0; task < tasks.count && task < TASKS; task++) {
                if (canBePut(glass, task)
                        && (best == NONE || tasks.differenceOf(task) > tasks.differenceOf(best))) {
                    best = task;
                }
            }
            return best;
        }

        /** Goes on, with the player's workers put on the task, until it has the price. */
        int untilAffordable(int player, int price, int task) {
            int passed = 0;
            while (passed <= MOST_SECONDS) {
                if (players.have(player, price)) {
                    return passed;
                }
                for (int worker = 0; worker < EACH; worker++) {
                    putWorker(player, worker, task);
                }
                // Until the next sand is out goods and places stay as they are: no need to ask.
                int rest = MOST_SECONDS + 1 - passed;
                int step = Math.max(1, Math.min(rest, glasses.untilNextOut()));
                advance(step);
                passed += step;
            }
            return NOT_FOUND;
        }
    }

    /** The states before the latest changes, the oldest first. */
    private static final class History {
        int count;
        private final Game[] states;

        History() {
            states = new Game[STATES];
            for (int i = 0; i < STATES; i++) {
                states[i] = new Game();
            }
        }

        void record(Game game) {
            if (count >= STATES) {
                dropOldest();
            }
            states[count].copyFrom(game);
            count++;
        }

        private void dropOldest() {
            Game oldest = states[0];
            for (int i = 0; i < STATES - 1; i++) {
                states[i] = states[i + 1];
            }
            // Its rows are used again.
            states[STATES - 1] = oldest;
            count--;
        }

        int restore(Game game) {
            if (count <= 0) {
                return NOT_POSSIBLE;
            }
            count--;
            game.copyFrom(states[count]);
            return count;
        }
    }

    /** The text, and the fault that it had when it was obeyed last. */
    private static final class Orders {
        int length;
        int obeyed;
        int position;
        int reason;
        int cause;
        private int cursor;
        private final int[] text;
        private final int[] numbers;

        Orders() {
            text = new int[SIGNS];
            numbers = new int[NUMBERS_OF_AN_ORDER];
        }

        int append(int character) {
            if (length >= SIGNS) {
                return LIMIT_REACHED;
            }
            text[length] = character;
            length++;
            return length;
        }

        int clear() {
            int had = length;
            length = 0;
            return had;
        }

        /** Does the orders in a game, up to the first that is not possible; tells if all were. */
        boolean obeyAll(Game game) {
            obeyed = 0;
            cursor = 0;
            while (cursor < length && obeyed < SIGNS) {
                position = cursor;
                if (!readOrder()) {
                    reason = REASON_FORM;
                    cause = cursor - position;
                    return false;
                }
                int answer = obey(game, signAt(position));
                if (answer < 0) {
                    reason = REASON_CALL;
                    cause = answer;
                    return false;
                }
                obeyed++;
            }
            return true;
        }

        /** Leaves the cursor behind the order, or at the sign where it breaks off. */
        private boolean readOrder() {
            int wanted = numbersOf(signAt(cursor));
            if (wanted == 0) {
                return false;
            }
            cursor++;
            for (int i = 0; i < wanted; i++) {
                if (!readNumber(i) || !readSign(i < wanted - 1 ? ',' : ';')) {
                    return false;
                }
            }
            return true;
        }

        private boolean readNumber(int which) {
            int value = 0;
            int digits = 0;
            while (digits < DIGITS && within(signAt(cursor), '0', '9')) {
                value = 10 * value + signAt(cursor) - '0';
                digits++;
                cursor++;
            }
            if (digits == 0 || !within(which, 0, NUMBERS_OF_AN_ORDER - 1)) {
                return false;
            }
            numbers[which] = value;
            return true;
        }

        private boolean readSign(int sign) {
            if (signAt(cursor) != sign) {
                return false;
            }
            cursor++;
            return true;
        }

        private int signAt(int at) {
            return within(at, 0, length - 1) ? text[at] : NONE;
        }

        /** How many numbers an order with this sign has; 0 if there is no such order. */
        private static int numbersOf(int sign) {
            switch (sign) {
                case 't':
                    return 4;
                case 'w':
                    return 3;
                case 'h':
                case 'c':
                case 'b':
                    return 2;
                case 's':
                    return 1;
                default:
                    return 0;
            }
        }

        private int obey(Game game, int sign) {
            switch (sign) {
                case 't':
                    return game.addTask(numbers[0], numbers[1], numbers[2], numbers[3]);
                case 'w':
                    return game.putWorker(numbers[0], numbers[1], numbers[2]);
                case 'h':
                    return game.takeHome(numbers[0], numbers[1]);
                case 'c':
                    return game.layContract(numbers[0], numbers[1]);
                case 'b':
                    return game.buyContract(numbers[0], numbers[1]);
                default:
                    return game.letPass(numbers[0]);
            }
        }
    }
}
