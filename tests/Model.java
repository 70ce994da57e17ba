import java.util.ArrayList;
import java.util.List;
import java.util.TreeSet;

/** A second, plainer form of the program that follows the document's words, for tests to compare with. */
final class Model {
    private static final class Balancer {
        int upper;
        int lower;
        int column;
        int had;
    }

    private static final class Way {
        int station;
    }

    private static final class Token {
        int wire;
        boolean ordered;
        int station = -1;
        Way way;
        boolean done;
        int number = -1;
        List<Balancer> passed = new ArrayList<>();
    }

    private static final class Letter {
        int token;
        Way way;
    }

    int width;
    int stations;
    List<Balancer> balancers;
    List<Integer> exits;
    List<TreeSet<Integer>> numbers;
    TreeSet<Integer> allNumbers;
    List<Token> tokens;
    List<Letter> bag;
    TreeSet<Integer> down;

    Model(int width, int stations) {
        build(width, stations);
    }

    int build(int w, int s) {
        if (w != 2 && w != 4 && w != 8 || s < 1 || s > 6) {
            throw new IllegalArgumentException();
        }
        width = w;
        stations = s;
        balancers = new ArrayList<>();
        numbers = new ArrayList<>();
        allNumbers = new TreeSet<>();
        tokens = new ArrayList<>();
        bag = new ArrayList<>();
        down = new TreeSet<>();
        List<Integer> wires = new ArrayList<>();
        for (int i = 0; i < w; i++) {
            wires.add(i);
            numbers.add(new TreeSet<>());
        }
        exits = layOut(wires);
        return balancers.size();
    }

    List<Integer> layOut(List<Integer> wires) {
        if (wires.size() == 1) {
            return wires;
        }
        int half = wires.size() / 2;
        List<Integer> x = layOut(wires.subList(0, half));
        return merge(x, layOut(wires.subList(half, wires.size())));
    }

    List<Integer> merge(List<Integer> x, List<Integer> y) {
        List<Integer> row = new ArrayList<>();
        if (x.size() == 1) {
            lay(x.get(0), y.get(0));
            row.add(x.get(0));
            row.add(y.get(0));
            return row;
        }
        List<Integer> p = merge(places(x, 0), places(y, 1));
        List<Integer> q = merge(places(x, 1), places(y, 0));
        for (int i = 0; i < p.size(); i++) {
            lay(p.get(i), q.get(i));
            row.add(p.get(i));
            row.add(q.get(i));
        }
        return row;
    }

    static List<Integer> places(List<Integer> row, int first) {
        List<Integer> some = new ArrayList<>();
        for (int i = first; i < row.size(); i += 2) {
            some.add(row.get(i));
        }
        return some;
    }

    void lay(int upper, int lower) {
        Balancer laid = new Balancer();
        laid.upper = upper;
        laid.lower = lower;
        for (Balancer b : balancers) {
            boolean touches = b.upper == upper || b.upper == lower || b.lower == upper || b.lower == lower;
            if (touches && b.column >= laid.column) {
                laid.column = b.column + 1;
            }
        }
        balancers.add(laid);
    }

    int balancer(int i, int what) {
        checkIndex(i, balancers.size());
        Balancer b = balancers.get(i);
        return one(what, b.upper, b.lower, b.column, b.column % stations, b.had);
    }

    int exit(int i, int what) {
        checkIndex(i, width);
        return one(what, exits.get(i), i % stations, numbers.get(i).size());
    }

    int enter(int wire, boolean ordered) {
        if (wire < 0 || wire >= width) {
            throw new IllegalArgumentException();
        }
        if (tokens.size() == 200 || left() == 40) {
            throw new IllegalStateException();
        }
        Token t = new Token();
        t.wire = wire;
        t.ordered = ordered;
        tokens.add(t);
        return tokens.size() - 1;
    }

    int left() {
        return tokensLeft().size();
    }

    Balancer nextOf(Token t) {
        int from = t.passed.isEmpty() ? 0 : balancers.indexOf(t.passed.get(t.passed.size() - 1)) + 1;
        for (Balancer b : balancers.subList(from, balancers.size())) {
            if (!t.passed.contains(b) && (b.upper == t.wire || b.lower == t.wire)) {
                return b;
            }
        }
        return null;
    }

    int move(int token) {
        checkToken(token);
        Token t = tokens.get(token);
        if (t.done || down.contains(t.station)) {
            throw new IllegalStateException();
        }
        if (t.way != null) {
            return 3;
        }
        Balancer next = nextOf(t);
        int exit = exits.indexOf(t.wire);
        int station = next == null ? exit % stations : next.column % stations;
        if (t.station != station) {
            checkRoom();
            t.way = new Way();
            t.way.station = station;
            post(token, t.way);
            return 2;
        }
        if (next == null) {
            t.number = exit + width * numbers.get(exit).size();
            numbers.get(exit).add(t.number);
            allNumbers.add(t.number);
            t.done = true;
            return 1;
        }
        t.wire = next.had % 2 == 0 ? next.upper : next.lower;
        next.had++;
        t.passed.add(next);
        return 0;
    }

    void post(int token, Way way) {
        Letter letter = new Letter();
        letter.token = token;
        letter.way = way;
        bag.add(letter);
    }

    int deliver(int i) {
        checkLetter(i);
        Letter letter = bag.remove(i);
        Token t = tokens.get(letter.token);
        if (down.contains(letter.way.station) || t.way != letter.way) {
            return 0;
        }
        t.station = letter.way.station;
        t.way = null;
        return 1;
    }

    void twin(int i) {
        checkLetter(i);
        checkRoom();
        post(bag.get(i).token, bag.get(i).way);
    }

    int letter(int i, int what) {
        if (i == -1) {
            return bag.size();
        }
        checkLetter(i);
        return one(what, bag.get(i).token, bag.get(i).way.station);
    }

    int resend() {
        int posted = 0;
        for (int t = 0; t < tokens.size(); t++) {
            Way way = tokens.get(t).way;
            if (way != null && !inBag(way) && bag.size() < 60) {
                post(t, way);
                posted++;
            }
        }
        return posted;
    }

    boolean inBag(Way way) {
        for (Letter letter : bag) {
            if (letter.way == way) {
                return true;
            }
        }
        return false;
    }

    void station(int s, boolean goesDown) {
        if (s < 0 || s >= stations) {
            throw new IllegalArgumentException();
        }
        if (goesDown) {
            down.add(s);
        } else {
            down.remove(s);
        }
    }

    int token(int token, int what) {
        checkToken(token);
        Token t = tokens.get(token);
        boolean shown = t.done && (!t.ordered || allNumbers.headSet(t.number).size() == t.number);
        return one(what, t.wire, t.station, t.done ? 2 : t.way != null ? 1 : 0, t.passed.size(), shown ? t.number : -1);
    }

    int about(int what) {
        int highest = allNumbers.isEmpty() ? -1 : allNumbers.last();
        int missing = 0;
        for (int n = 0; n < highest; n++) {
            missing += allNumbers.contains(n) ? 0 : 1;
        }
        int passes = width == 2 ? 1 : width == 4 ? 3 : 6;
        return one(what, width, tokens.size(), left(), highest, missing, passes);
    }

    int settle(int most) {
        if (most < 0 || most > 100) {
            throw new IllegalArgumentException();
        }
        int rounds = 0;
        while (rounds < most && left() > 0) {
            for (int t = 0; t < tokens.size(); t++) {
                try {
                    move(t);
                } catch (IllegalStateException e) {
                    continue;
                }
            }
            while (!bag.isEmpty()) {
                deliver(0);
            }
            rounds++;
        }
        return rounds;
    }

    static int one(int what, int... answers) {
        if (what < 0 || what >= answers.length) {
            throw new IllegalArgumentException();
        }
        return answers[what];
    }

    void checkLetter(int i) {
        checkIndex(i, bag.size());
    }

    static void checkIndex(int i, int bound) {
        if (i < 0 || i >= bound) {
            throw new IndexOutOfBoundsException();
        }
    }

    void checkToken(int t) {
        if (t < 0 || t >= tokens.size()) {
            throw new IllegalArgumentException();
        }
    }

    void checkRoom() {
        if (bag.size() >= 60) {
            throw new IllegalStateException();
        }
    }

    void lose(int i) {
        checkLetter(i);
        bag.remove(i);
    }

    /** Every question that has an answer now, so that two states can be told apart. */
    List<Call> questions() {
        List<Call> all = new ArrayList<>();
        for (int what = 0; what <= 5; what++) {
            all.add(new Call("about", what, 0));
        }
        all.add(new Call("letter", -1, 0));
        askOfEach(all, "letter", bag.size(), 2);
        askOfEach(all, "token", tokens.size(), 5);
        askOfEach(all, "exit", width, 3);
        askOfEach(all, "balancer", balancers.size(), 5);
        return all;
    }

    private static void askOfEach(List<Call> all, String name, int count, int whats) {
        for (int i = 0; i < count; i++) {
            for (int what = 0; what < whats; what++) {
                all.add(new Call(name, i, what));
            }
        }
    }

    List<Integer> tokensLeft() {
        List<Integer> left = new ArrayList<>();
        for (int t = 0; t < tokens.size(); t++) {
            if (!tokens.get(t).done) {
                left.add(t);
            }
        }
        return left;
    }
}
