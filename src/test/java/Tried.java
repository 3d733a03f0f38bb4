import java.util.List;

/** A new object and the calls on it, made to try one sentence of the document. */
final class Tried {
    /** The document promises nothing after so many calls, so no test may lean on a later one. */
    static final int MOST_CALLS = 512;

    private final Checks checks;
    private final String sentence;
    private final NetShapes x = new NetShapes();
    private int calls = 0;

    Tried(Checks checks, String sentence) {
        this.checks = checks;
        this.sentence = sentence;
    }

    Tried(Checks checks, String sentence, List<Call> made) {
        this(checks, sentence);
        for (Call call : made) {
            ask(call);
        }
    }

    Object ask(Call call) {
        calls++;
        if (calls > MOST_CALLS) {
            throw new IllegalStateException(sentence + ": more than " + MOST_CALLS + " calls");
        }
        return call.on(x);
    }

    /** A call whose answer is not what is tried here. */
    Tried tell(String name, Number... given) {
        ask(Call.of(name, given));
        return this;
    }

    Tried due(Object want, String name, Number... given) {
        return due(want, Call.of(name, given));
    }

    Tried due(Object want, Call call) {
        checks.same(sentence + ": " + call, ask(call), want);
        return this;
    }

    double number(String name, Number... given) {
        Object got = ask(Call.of(name, given));
        if (got instanceof Number) {
            return ((Number) got).doubleValue();
        }
        checks.same(sentence + ": " + name, got, "a number");
        return 0.0;
    }

    int calls() {
        return calls;
    }
}
