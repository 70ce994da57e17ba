/** One call of the face by its name; a boolean that it takes is b, true if that is 1. */
record Call(String name, int a, int b) {
    String on(CountingNetwork x) {
        return answer(() -> callProgram(x));
    }

    String on(Model model) {
        return answer(() -> callModel(model));
    }

    private static String answer(Check.Call call) {
        try {
            return Integer.toString(call.run());
        } catch (RuntimeException e) {
            return "throws." + e.getClass().getSimpleName();
        }
    }

    private int callProgram(CountingNetwork x) {
        switch (name) {
            case "build": return x.build(a, b);
            case "balancer": return x.balancer(a, b);
            case "exit": return x.exit(a, b);
            case "enter": return x.enter(a, b == 1);
            case "move": return x.move(a);
            case "deliver": return x.deliver(a);
            case "lose": x.lose(a); return 0;
            case "twin": x.twin(a); return 0;
            case "letter": return x.letter(a, b);
            case "resend": return x.resend();
            case "station": x.station(a, b == 1); return 0;
            case "token": return x.token(a, b);
            case "about": return x.about(a);
            case "settle": return x.settle(a);
            default: throw new AssertionError(name);
        }
    }

    private int callModel(Model m) {
        switch (name) {
            case "build": return m.build(a, b);
            case "balancer": return m.balancer(a, b);
            case "exit": return m.exit(a, b);
            case "enter": return m.enter(a, b == 1);
            case "move": return m.move(a);
            case "deliver": return m.deliver(a);
            case "lose": m.lose(a); return 0;
            case "twin": m.twin(a); return 0;
            case "letter": return m.letter(a, b);
            case "resend": return m.resend();
            case "station": m.station(a, b == 1); return 0;
            case "token": return m.token(a, b);
            case "about": return m.about(a);
            case "settle": return m.settle(a);
            default: throw new AssertionError(name);
        }
    }

    @Override
    public String toString() {
        return name + "(" + a + ", " + b + ")";
    }
}
