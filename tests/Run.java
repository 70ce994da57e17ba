import java.util.ArrayList;
import java.util.List;

/** A run of calls on a new object beside the model; no longer than the document promises anything. */
final class Run {
    static final int MOST_CALLS = 512;

    final String title;
    final Model model = new Model(2, 1);
    private final CountingNetwork program = new CountingNetwork();
    private final List<Call> calls = new ArrayList<>();
    private final Check check;

    Run(Check check, String title) {
        this.check = check;
        this.title = title;
    }

    int length() {
        return calls.size();
    }

    String call(String name, int a, int b) {
        return call(new Call(name, a, b));
    }

    /** What was due. */
    String call(Call call) {
        calls.add(call);
        if (calls.size() > MOST_CALLS) {
            throw new AssertionError(title + " is too long");
        }
        String want = call.on(model);
        String got = call.on(program);
        if (!want.equals(got)) {
            check.report(title + ", call " + calls.size() + ": " + call, got, want);
        }
        return want;
    }

    /** The same calls on another new object. */
    Run again() {
        Run again = new Run(check, title);
        for (Call call : calls) {
            again.call(call);
        }
        return again;
    }

    /** Asks all that can be asked, on as many new objects as the limit of calls makes needful. */
    void askAll() {
        List<Call> questions = model.questions();
        Run asking = again();
        for (Call question : questions) {
            if (asking.length() == MOST_CALLS) {
                asking = again();
            }
            asking.call(question);
        }
    }
}
