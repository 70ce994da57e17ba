import java.util.ArrayList;
import java.util.List;
import java.util.Random;
import java.util.TreeSet;

/** Runs of mixed calls, right and wrong ones, against a second model that follows the document's words. */
public final class ModelTest {
    private static final int RUNS = 1500;
    private static final int CALLS = 400;
    private static final int[] WIDTHS = {2, 4, 8};

    private static final Check check = new Check();

    public static void main(String[] args) {
        for (int seed = 0; seed < RUNS && !check.hasFound(); seed++) {
            run(seed);
        }
        check.end();
    }

    private static void run(int seed) {
        Random random = new Random(seed);
        CountingNetwork x = new CountingNetwork();
        Model model = new Model(2, 1);
        int likesToBuild = random.nextInt(3) == 0 ? 100 : 1000;
        int likesToSettle = random.nextInt(3) == 0 ? 25 : 400;
        boolean stationsFail = random.nextBoolean();
        boolean lettersFail = random.nextBoolean();
        build(x, model, WIDTHS[random.nextInt(3)], 1 + random.nextInt(6));
        for (int n = 0; n < CALLS && !check.hasFound(); n++) {
            String where = "seed " + seed + ", call " + n + ": ";
            if (random.nextInt(likesToBuild) == 0) {
                int width = random.nextInt(3) == 0 ? random.nextInt(10) : WIDTHS[random.nextInt(3)];
                same(where, x, model, "build", width, random.nextInt(8));
            } else if (random.nextInt(likesToSettle) == 0) {
                same(where, x, model, "settle", random.nextInt(12) == 0 ? random.nextInt(140) - 20 : random.nextInt(4), 0);
            } else {
                String call = pick(random, stationsFail, lettersFail);
                same(where, x, model, call, firstArgument(random, model, call), random.nextInt(7) - 1);
            }
            if (n % 8 == 0) {
                check.row(where + "state", model.state(), Check.stateOf(x));
            }
        }
        check.row("seed " + seed + ": state", model.state(), Check.stateOf(x));
    }

    private static void build(CountingNetwork x, Model model, int width, int stations) {
        x.build(width, stations);
        model.build(width, stations);
    }

    private static String pick(Random random, boolean stationsFail, boolean lettersFail) {
        int n = random.nextInt(100);
        if (n < 18) {
            return "enter";
        }
        if (n < 58) {
            return "move";
        }
        if (n < 78) {
            return "deliver";
        }
        if (n < 84 && lettersFail) {
            return n < 80 ? "lose" : "twin";
        }
        if (n < 88) {
            return "resend";
        }
        if (n < 90 && stationsFail) {
            return "station";
        }
        return new String[] {"balancer", "exit", "letter", "token", "about"}[n % 5];
    }

    private static int firstArgument(Random random, Model model, String call) {
        int bound;
        switch (call) {
            case "enter":
            case "exit":
                bound = model.width;
                break;
            case "move":
            case "token":
                return someToken(random, model);
            case "deliver":
            case "lose":
            case "twin":
            case "letter":
                bound = model.bag.size();
                break;
            case "station":
                bound = model.stations;
                break;
            case "balancer":
                bound = model.balancers.size();
                break;
            default:
                bound = 6;
        }
        return random.nextInt(20) == 0 ? random.nextInt(bound + 4) - 2 : random.nextInt(Math.max(1, bound));
    }

    private static int someToken(Random random, Model model) {
        List<Integer> left = new ArrayList<>();
        for (int t = 0; t < model.tokens.size(); t++) {
            if (!model.tokens.get(t).done) {
                left.add(t);
            }
        }
        if (left.isEmpty() || random.nextInt(15) == 0) {
            return random.nextInt(model.tokens.size() + 3) - 1;
        }
        return left.get(random.nextInt(left.size()));
    }

    private static void same(String where, CountingNetwork x, Model model, String call, int a, int b) {
        String want = answer(() -> callModel(model, call, a, b));
        String got = answer(() -> callProgram(x, call, a, b));
        if (!want.equals(got)) {
            check.report(where + call + "(" + a + ", " + b + ")", got, want);
        }
    }

    private static String answer(Check.Call call) {
        try {
            return Integer.toString(call.run());
        } catch (RuntimeException e) {
            return "throws." + e.getClass().getSimpleName();
        }
    }

    private static int callProgram(CountingNetwork x, String call, int a, int b) {
        switch (call) {
            case "build": return x.build(a, b);
            case "balancer": return x.balancer(a, b);
            case "exit": return x.exit(a, b);
            case "enter": return x.enter(a, b % 2 == 0);
            case "move": return x.move(a);
            case "deliver": return x.deliver(a);
            case "lose": x.lose(a); return 0;
            case "twin": x.twin(a); return 0;
            case "letter": return x.letter(a, b);
            case "resend": return x.resend();
            case "station": x.station(a, b < 1); return 0;
            case "token": return x.token(a, b);
            case "about": return x.about(b);
            default: return x.settle(a);
        }
    }

    private static int callModel(Model m, String call, int a, int b) {
        switch (call) {
            case "build": return m.build(a, b);
            case "balancer": return m.balancer(a, b);
            case "exit": return m.exit(a, b);
            case "enter": return m.enter(a, b % 2 == 0);
            case "move": return m.move(a);
            case "deliver": return m.deliver(a);
            case "lose": m.checkLetter(a); m.bag.remove(a); return 0;
            case "twin": m.twin(a); return 0;
            case "letter": return m.letter(a, b);
            case "resend": return m.resend();
            case "station": m.station(a, b < 1); return 0;
            case "token": return m.token(a, b);
            case "about": return m.about(b);
            default: return m.settle(a);
        }
    }

    private static final class Balancer {
        int upper;
        int lower;
        int column;
        int had;
    }

    private static final class Way {
        int station;
    }

    private static final class Token {
        int wire;
        boolean ordered;
        int station = -1;
        Way way;
        boolean done;
        int number = -1;
        List<Balancer> passed = new ArrayList<>();
    }

    private static final class Letter {
        int token;
        Way way;
    }

    private static final class Model {
        int width;
        int stations;
        List<Balancer> balancers;
        List<Integer> exits;
        List<TreeSet<Integer>> numbers;
        TreeSet<Integer> allNumbers;
        List<Token> tokens;
        List<Letter> bag;
        TreeSet<Integer> down;

        Model(int width, int stations) {
            build(width, stations);
        }

        int build(int w, int s) {
            if (w != 2 && w != 4 && w != 8 || s < 1 || s > 6) {
                throw new IllegalArgumentException();
            }
            width = w;
            stations = s;
            balancers = new ArrayList<>();
            numbers = new ArrayList<>();
            allNumbers = new TreeSet<>();
            tokens = new ArrayList<>();
            bag = new ArrayList<>();
            down = new TreeSet<>();
            List<Integer> wires = new ArrayList<>();
            for (int i = 0; i < w; i++) {
                wires.add(i);
                numbers.add(new TreeSet<>());
            }
            exits = layOut(wires);
            return balancers.size();
        }

        List<Integer> layOut(List<Integer> wires) {
            if (wires.size() == 1) {
                return wires;
            }
            int half = wires.size() / 2;
            List<Integer> x = layOut(wires.subList(0, half));
            return merge(x, layOut(wires.subList(half, wires.size())));
        }

        List<Integer> merge(List<Integer> x, List<Integer> y) {
            List<Integer> row = new ArrayList<>();
            if (x.size() == 1) {
                lay(x.get(0), y.get(0));
                row.add(x.get(0));
                row.add(y.get(0));
                return row;
            }
            List<Integer> p = merge(places(x, 0), places(y, 1));
            List<Integer> q = merge(places(x, 1), places(y, 0));
            for (int i = 0; i < p.size(); i++) {
                lay(p.get(i), q.get(i));
                row.add(p.get(i));
                row.add(q.get(i));
            }
            return row;
        }

        static List<Integer> places(List<Integer> row, int first) {
            List<Integer> some = new ArrayList<>();
            for (int i = first; i < row.size(); i += 2) {
                some.add(row.get(i));
            }
            return some;
        }

        void lay(int upper, int lower) {
            Balancer laid = new Balancer();
            laid.upper = upper;
            laid.lower = lower;
            for (Balancer b : balancers) {
                boolean touches = b.upper == upper || b.upper == lower || b.lower == upper || b.lower == lower;
                if (touches && b.column >= laid.column) {
                    laid.column = b.column + 1;
                }
            }
            balancers.add(laid);
        }

        int balancer(int i, int what) {
            checkIndex(i, balancers.size());
            Balancer b = balancers.get(i);
            return one(what, b.upper, b.lower, b.column, b.column % stations, b.had);
        }

        int exit(int i, int what) {
            checkIndex(i, width);
            return one(what, exits.get(i), i % stations, numbers.get(i).size());
        }

        int enter(int wire, boolean ordered) {
            if (wire < 0 || wire >= width) {
                throw new IllegalArgumentException();
            }
            if (tokens.size() == 200 || left() == 40) {
                throw new IllegalStateException();
            }
            Token t = new Token();
            t.wire = wire;
            t.ordered = ordered;
            tokens.add(t);
            return tokens.size() - 1;
        }

        int left() {
            int left = 0;
            for (Token t : tokens) {
                left += t.done ? 0 : 1;
            }
            return left;
        }

        Balancer nextOf(Token t) {
            int from = t.passed.isEmpty() ? 0 : balancers.indexOf(t.passed.get(t.passed.size() - 1)) + 1;
            for (Balancer b : balancers.subList(from, balancers.size())) {
                if (!t.passed.contains(b) && (b.upper == t.wire || b.lower == t.wire)) {
                    return b;
                }
            }
            return null;
        }

        int move(int token) {
            checkToken(token);
            Token t = tokens.get(token);
            if (t.done || down.contains(t.station)) {
                throw new IllegalStateException();
            }
            if (t.way != null) {
                return 3;
            }
            Balancer next = nextOf(t);
            int exit = exits.indexOf(t.wire);
            int station = next == null ? exit % stations : next.column % stations;
            if (t.station != station) {
                checkRoom();
                t.way = new Way();
                t.way.station = station;
                post(token, t.way);
                return 2;
            }
            if (next == null) {
                t.number = exit + width * numbers.get(exit).size();
                numbers.get(exit).add(t.number);
                allNumbers.add(t.number);
                t.done = true;
                return 1;
            }
            t.wire = next.had % 2 == 0 ? next.upper : next.lower;
            next.had++;
            t.passed.add(next);
            return 0;
        }

        void post(int token, Way way) {
            Letter letter = new Letter();
            letter.token = token;
            letter.way = way;
            bag.add(letter);
        }

        int deliver(int i) {
            checkLetter(i);
            Letter letter = bag.remove(i);
            Token t = tokens.get(letter.token);
            if (down.contains(letter.way.station) || t.way != letter.way) {
                return 0;
            }
            t.station = letter.way.station;
            t.way = null;
            return 1;
        }

        void twin(int i) {
            checkLetter(i);
            checkRoom();
            post(bag.get(i).token, bag.get(i).way);
        }

        int letter(int i, int what) {
            if (i == -1) {
                return bag.size();
            }
            checkLetter(i);
            return one(what, bag.get(i).token, bag.get(i).way.station);
        }

        int resend() {
            int posted = 0;
            for (int t = 0; t < tokens.size(); t++) {
                Way way = tokens.get(t).way;
                if (way != null && !inBag(way) && bag.size() < 60) {
                    post(t, way);
                    posted++;
                }
            }
            return posted;
        }

        boolean inBag(Way way) {
            for (Letter letter : bag) {
                if (letter.way == way) {
                    return true;
                }
            }
            return false;
        }

        void station(int s, boolean goesDown) {
            if (s < 0 || s >= stations) {
                throw new IllegalArgumentException();
            }
            if (goesDown) {
                down.add(s);
            } else {
                down.remove(s);
            }
        }

        int token(int token, int what) {
            checkToken(token);
            Token t = tokens.get(token);
            boolean shown = t.done && (!t.ordered || allNumbers.headSet(t.number).size() == t.number);
            return one(what, t.wire, t.station, t.done ? 2 : t.way != null ? 1 : 0, t.passed.size(), shown ? t.number : -1);
        }

        int about(int what) {
            int highest = allNumbers.isEmpty() ? -1 : allNumbers.last();
            int missing = 0;
            for (int n = 0; n < highest; n++) {
                missing += allNumbers.contains(n) ? 0 : 1;
            }
            int passes = width == 2 ? 1 : width == 4 ? 3 : 6;
            return one(what, width, tokens.size(), left(), highest, missing, passes);
        }

        int settle(int most) {
            if (most < 0 || most > 100) {
                throw new IllegalArgumentException();
            }
            int rounds = 0;
            while (rounds < most && left() > 0) {
                for (int t = 0; t < tokens.size(); t++) {
                    try {
                        move(t);
                    } catch (IllegalStateException e) {
                        continue;
                    }
                }
                while (!bag.isEmpty()) {
                    deliver(0);
                }
                rounds++;
            }
            return rounds;
        }

        static int one(int what, int... answers) {
            if (what < 0 || what >= answers.length) {
                throw new IllegalArgumentException();
            }
            return answers[what];
        }

        void checkLetter(int i) {
            checkIndex(i, bag.size());
        }

        static void checkIndex(int i, int bound) {
            if (i < 0 || i >= bound) {
                throw new IndexOutOfBoundsException();
            }
        }

        void checkToken(int t) {
            if (t < 0 || t >= tokens.size()) {
                throw new IllegalArgumentException();
            }
        }

        void checkRoom() {
            if (bag.size() >= 60) {
                throw new IllegalStateException();
            }
        }

        int[] state() {
            List<Integer> all = new ArrayList<>();
            for (int what = 0; what <= 5; what++) {
                all.add(about(what));
            }
            all.add(bag.size());
            for (int i = 0; i < bag.size(); i++) {
                all.add(letter(i, 0));
                all.add(letter(i, 1));
            }
            for (int t = 0; t < tokens.size(); t++) {
                for (int what = 0; what <= 4; what++) {
                    all.add(token(t, what));
                }
            }
            for (int i = 0; i < width; i++) {
                for (int what = 0; what <= 2; what++) {
                    all.add(exit(i, what));
                }
            }
            for (int b = 0; b < balancers.size(); b++) {
                for (int what = 0; what <= 4; what++) {
                    all.add(balancer(b, what));
                }
            }
            return all.stream().mapToInt(Integer::intValue).toArray();
        }
    }
}
