/** Hands out numbers without a central desk: tokens go through balancers to exits that number them. */
public final class CountingNetwork {
    public static final int NONE = -1;

    private static final int MOST_WIRES = 8;
    private static final int MOST_BALANCERS = 24;
    private static final int MOST_STATIONS = 6;
    private static final int MOST_TOKENS = 200;
    private static final int MOST_NOT_DONE = 40;
    private static final int MOST_LETTERS = 60;
    private static final int MOST_ROUNDS = 100;

    private static final int RESTING = 0;
    private static final int UNDER_WAY = 1;
    private static final int DONE = 2;

    private static final int WENT_THROUGH = 0;
    private static final int CAME_OUT = 1;
    private static final int POSTED = 2;
    private static final int STILL_UNDER_WAY = 3;

    private final Plan plan = new Plan();
    private final Tokens tokens = new Tokens();
    private final Bag bag = new Bag();
    private final int[] had = new int[MOST_BALANCERS];
    private final int[] handedOut = new int[MOST_WIRES];
    private final boolean[] down = new boolean[MOST_STATIONS];
    private int stations;

    public CountingNetwork() {
        startAnew(2, 1);
    }

    public int build(int width, int stations) throws IllegalArgumentException {
        if (width != 2 && width != 4 && width != 8) {
            throw new IllegalArgumentException("width");
        }
        if (stations < 1 || stations > MOST_STATIONS) {
            throw new IllegalArgumentException("stations");
        }
        startAnew(width, stations);
        return plan.balancers;
    }

    public int balancer(int b, int what) throws IndexOutOfBoundsException, IllegalArgumentException {
        if (b < 0 || b >= plan.balancers) {
            throw new IndexOutOfBoundsException("balancer");
        }
        switch (what) {
            case 0:
                return plan.upper[b];
            case 1:
                return plan.lower[b];
            case 2:
                return plan.column[b];
            case 3:
                return stationOfBalancer(b);
            case 4:
                return had[b];
            default:
                throw new IllegalArgumentException("what");
        }
    }

    public int exit(int i, int what) throws IndexOutOfBoundsException, IllegalArgumentException {
        if (i < 0 || i >= plan.width) {
            throw new IndexOutOfBoundsException("exit");
        }
        switch (what) {
            case 0:
                return plan.row[i];
            case 1:
                return stationOfExit(i);
            case 2:
                return handedOut[i];
            default:
                throw new IllegalArgumentException("what");
        }
    }

    public int enter(int wire, boolean ordered) throws IllegalArgumentException, IllegalStateException {
        if (wire < 0 || wire >= plan.width) {
            throw new IllegalArgumentException("wire");
        }
        if (tokens.entered >= MOST_TOKENS || tokens.notDone >= MOST_NOT_DONE) {
            throw new IllegalStateException("too many tokens");
        }
        return tokens.add(wire, ordered);
    }

    public int move(int token) throws IllegalArgumentException, IllegalStateException {
        if (!tokens.has(token)) {
            throw new IllegalArgumentException("token");
        }
        if (!canStep(token)) {
            throw new IllegalStateException("the token can't move");
        }
        return step(token);
    }

    public int deliver(int i) throws IndexOutOfBoundsException {
        if (!bag.has(i)) {
            throw new IndexOutOfBoundsException("letter");
        }
        return handOver(i) ? 1 : 0;
    }

    public void lose(int i) throws IndexOutOfBoundsException {
        if (!bag.has(i)) {
            throw new IndexOutOfBoundsException("letter");
        }
        bag.takeOut(i);
    }

    public void twin(int i) throws IndexOutOfBoundsException, IllegalStateException {
        if (!bag.has(i)) {
            throw new IndexOutOfBoundsException("letter");
        }
        if (!bag.hasRoom()) {
            throw new IllegalStateException("the bag is full");
        }
        bag.post(bag.addressee[i], bag.way[i], bag.target[i]);
    }

    public int letter(int i, int what) throws IndexOutOfBoundsException, IllegalArgumentException {
        if (i == -1) {
            return bag.size;
        }
        if (!bag.has(i)) {
            throw new IndexOutOfBoundsException("letter");
        }
        switch (what) {
            case 0:
                return bag.addressee[i];
            case 1:
                return bag.target[i];
            default:
                throw new IllegalArgumentException("what");
        }
    }

    public int resend() {
        int before = bag.size;
        for (int t = 0; t < tokens.entered && bag.hasRoom(); t++) {
            if (tokens.state[t] == UNDER_WAY && !bag.holds(t, tokens.way[t])) {
                bag.post(t, tokens.way[t], stationOfNext(t));
            }
        }
        return bag.size - before;
    }

    public void station(int s, boolean down) throws IllegalArgumentException {
        if (s < 0 || s >= stations) {
            throw new IllegalArgumentException("station");
        }
        this.down[s] = down;
    }

    public int token(int t, int what) throws IllegalArgumentException {
        if (!tokens.has(t)) {
            throw new IllegalArgumentException("token");
        }
        switch (what) {
            case 0:
                return tokens.wire[t];
            case 1:
                return tokens.place[t];
            case 2:
                return tokens.state[t];
            case 3:
                return tokens.passed[t];
            case 4:
                return shownNumber(t);
            default:
                throw new IllegalArgumentException("what");
        }
    }

    public int about(int what) throws IllegalArgumentException {
        switch (what) {
            case 0:
                return plan.width;
            case 1:
                return tokens.entered;
            case 2:
                return tokens.notDone;
            case 3:
                return highestNumber();
            case 4:
                return missingBelowHighest();
            case 5:
                return plan.columns;
            default:
                throw new IllegalArgumentException("what");
        }
    }

    public int settle(int most) throws IllegalArgumentException {
        if (most < 0 || most > MOST_ROUNDS) {
            throw new IllegalArgumentException("most");
        }
        int rounds = 0;
        while (rounds < most && tokens.notDone > 0) {
            stepAll();
            handOverAll();
            rounds++;
        }
        return rounds;
    }

    private void startAnew(int width, int stationCount) {
        plan.drawFor(width);
        tokens.clear();
        bag.clear();
        stations = stationCount;
        for (int b = 0; b < MOST_BALANCERS; b++) {
            had[b] = 0;
        }
        for (int i = 0; i < MOST_WIRES; i++) {
            handedOut[i] = 0;
        }
        for (int s = 0; s < MOST_STATIONS; s++) {
            down[s] = false;
        }
    }

    private int stationOfBalancer(int b) {
        return plan.column[b] % stations;
    }

    private int stationOfExit(int i) {
        return i % stations;
    }

    private int nextBalancer(int t) {
        return plan.balancerBehind(tokens.wire[t], tokens.last[t]);
    }

    private int stationOfNext(int t) {
        int b = nextBalancer(t);
        return b == NONE ? stationOfExit(plan.exitOf(tokens.wire[t])) : stationOfBalancer(b);
    }

    private boolean canStep(int t) {
        if (tokens.state[t] == DONE || isDown(tokens.place[t])) {
            return false;
        }
        return bag.hasRoom() || tokens.state[t] == UNDER_WAY || tokens.place[t] == stationOfNext(t);
    }

    private boolean isDown(int s) {
        return s != NONE && down[s];
    }

    private int step(int t) {
        if (tokens.state[t] == UNDER_WAY) {
            return STILL_UNDER_WAY;
        }
        int target = stationOfNext(t);
        if (tokens.place[t] != target) {
            tokens.setOut(t);
            bag.post(t, tokens.way[t], target);
            return POSTED;
        }
        int b = nextBalancer(t);
        if (b == NONE) {
            comeOut(t, plan.exitOf(tokens.wire[t]));
            return CAME_OUT;
        }
        goThrough(t, b);
        return WENT_THROUGH;
    }

    private void goThrough(int t, int b) {
        int wire = had[b] % 2 == 0 ? plan.upper[b] : plan.lower[b];
        had[b]++;
        tokens.pass(t, b, wire);
    }

    private void comeOut(int t, int i) {
        tokens.finish(t, nextNumberAt(i));
        handedOut[i]++;
    }

    private int nextNumberAt(int i) {
        return i + plan.width * handedOut[i];
    }

    private boolean handOver(int i) {
        int t = bag.addressee[i];
        int way = bag.way[i];
        int target = bag.target[i];
        bag.takeOut(i);
        if (down[target] || tokens.state[t] != UNDER_WAY || tokens.way[t] != way) {
            return false;
        }
        tokens.arrive(t, target);
        return true;
    }

    private void stepAll() {
        for (int t = 0; t < tokens.entered; t++) {
            if (canStep(t)) {
                step(t);
            }
        }
    }

    private void handOverAll() {
        int letters = bag.size;
        for (int k = 0; k < letters; k++) {
            handOver(0);
        }
    }

    private int shownNumber(int t) {
        if (tokens.state[t] != DONE) {
            return NONE;
        }
        int number = tokens.number[t];
        return tokens.ordered[t] && number > leastMissing() ? NONE : number;
    }

    private int leastMissing() {
        int least = nextNumberAt(0);
        for (int i = 1; i < plan.width; i++) {
            least = Math.min(least, nextNumberAt(i));
        }
        return least;
    }

    private int highestNumber() {
        int highest = NONE;
        for (int i = 0; i < plan.width; i++) {
            if (handedOut[i] > 0) {
                highest = Math.max(highest, nextNumberAt(i) - plan.width);
            }
        }
        return highest;
    }

    private int missingBelowHighest() {
        int numbersHandedOut = tokens.entered - tokens.notDone;
        return highestNumber() + 1 - numbersHandedOut;
    }

    /** Where the balancers and exits lie. */
    private static final class Plan {
        int width;
        int balancers;
        int columns;
        final int[] upper = new int[MOST_BALANCERS];
        final int[] lower = new int[MOST_BALANCERS];
        final int[] column = new int[MOST_BALANCERS];
        final int[] row = new int[MOST_WIRES];
        private final int[] columnsOnWire = new int[MOST_WIRES];
        private final int[] spare = new int[MOST_WIRES];

        void drawFor(int wires) {
            width = wires;
            balancers = 0;
            columns = 0;
            for (int wire = 0; wire < wires; wire++) {
                row[wire] = wire;
                columnsOnWire[wire] = 0;
            }
            layOut(0, wires);
        }

        int balancerBehind(int wire, int last) {
            for (int b = last + 1; b < balancers; b++) {
                if (upper[b] == wire || lower[b] == wire) {
                    return b;
                }
            }
            return NONE;
        }

        int exitOf(int wire) {
            int i = 0;
            while (i < width - 1 && row[i] != wire) {
                i++;
            }
            return i;
        }

        // The length is halved from MOST_WIRES at most, so this goes four levels deep.
        private void layOut(int from, int length) {
            if (length < 2) {
                return;
            }
            int half = length / 2;
            layOut(from, half);
            layOut(from + half, half);
            merge(from, length);
        }

        // Halved like layOut; both halves stay side by side in the row, so no new rows are needed.
        private void merge(int from, int length) {
            if (length <= 2) {
                lay(row[from], row[from + 1]);
                return;
            }
            int half = length / 2;
            sortIntoParts(from, half);
            merge(from, half);
            merge(from + half, half);
            joinParts(from, half);
        }

        private void sortIntoParts(int from, int half) {
            int quarter = half / 2;
            for (int i = 0; i < half; i++) {
                boolean even = i % 2 == 0;
                spare[(even ? 0 : half) + i / 2] = row[from + i];
                spare[(even ? half : 0) + quarter + i / 2] = row[from + half + i];
            }
            System.arraycopy(spare, 0, row, from, 2 * half);
        }

        private void joinParts(int from, int half) {
            for (int i = 0; i < half; i++) {
                spare[2 * i] = row[from + i];
                spare[2 * i + 1] = row[from + half + i];
                lay(spare[2 * i], spare[2 * i + 1]);
            }
            System.arraycopy(spare, 0, row, from, 2 * half);
        }

        private void lay(int above, int below) {
            int place = Math.max(columnsOnWire[above], columnsOnWire[below]);
            upper[balancers] = above;
            lower[balancers] = below;
            column[balancers] = place;
            balancers++;
            columnsOnWire[above] = place + 1;
            columnsOnWire[below] = place + 1;
            columns = Math.max(columns, place + 1);
        }
    }

    /** What is known of each token, by its number. */
    private static final class Tokens {
        int entered;
        int notDone;
        final int[] wire = new int[MOST_TOKENS];
        final int[] place = new int[MOST_TOKENS];
        final int[] state = new int[MOST_TOKENS];
        final int[] passed = new int[MOST_TOKENS];
        final int[] last = new int[MOST_TOKENS];
        final int[] way = new int[MOST_TOKENS];
        final int[] number = new int[MOST_TOKENS];
        final boolean[] ordered = new boolean[MOST_TOKENS];

        void clear() {
            entered = 0;
            notDone = 0;
        }

        boolean has(int t) {
            return t >= 0 && t < entered;
        }

        int add(int onWire, boolean inOrder) {
            int t = entered;
            entered++;
            notDone++;
            wire[t] = onWire;
            place[t] = NONE;
            state[t] = RESTING;
            passed[t] = 0;
            last[t] = NONE;
            way[t] = 0;
            number[t] = NONE;
            ordered[t] = inOrder;
            return t;
        }

        // Each way has a number of its own, so that a letter of an older way is known as such.
        void setOut(int t) {
            way[t]++;
            state[t] = UNDER_WAY;
        }

        void arrive(int t, int at) {
            place[t] = at;
            state[t] = RESTING;
        }

        void pass(int t, int b, int outWire) {
            passed[t]++;
            last[t] = b;
            wire[t] = outWire;
        }

        void finish(int t, int given) {
            number[t] = given;
            state[t] = DONE;
            notDone--;
        }
    }

    /** The letters that are posted and not yet delivered or lost, in the order of posting. */
    private static final class Bag {
        int size;
        final int[] addressee = new int[MOST_LETTERS];
        final int[] way = new int[MOST_LETTERS];
        final int[] target = new int[MOST_LETTERS];

        void clear() {
            size = 0;
        }

        boolean has(int i) {
            return i >= 0 && i < size;
        }

        boolean hasRoom() {
            return size < MOST_LETTERS;
        }

        boolean holds(int t, int ofWay) {
            for (int i = 0; i < size; i++) {
                if (addressee[i] == t && way[i] == ofWay) {
                    return true;
                }
            }
            return false;
        }

        void post(int t, int ofWay, int to) {
            addressee[size] = t;
            way[size] = ofWay;
            target[size] = to;
            size++;
        }

        void takeOut(int i) {
            int behind = size - i - 1;
            System.arraycopy(addressee, i + 1, addressee, i, behind);
            System.arraycopy(way, i + 1, way, i, behind);
            System.arraycopy(target, i + 1, target, i, behind);
            size--;
        }
    }
}
