import java.util.ArrayList;
import java.util.HashMap;
import java.util.List;
import java.util.Map;

/**
 * "What is refused changes nothing": a refused call is made on an object, and the object must then
 * answer as one that is made alike and never had that call, now and in all that it does later.
 */
final class Refusals {
    private final Checks checks;
    private final Map<String, List<Object>> untouched = new HashMap<>();

    Refusals(Checks checks) {
        this.checks = checks;
    }

    void refused(String sentence, State state, Object answer, String name, Number... given) {
        Call call = Call.of(name, given);
        String where = sentence + ", " + state.name + ": " + call;
        List<List<Call>> looks = looks(state);
        for (int look = 0; look < looks.size(); look++) {
            Tried tried = new Tried(checks, where, state.made);
            checks.same(where, tried.ask(call), answer);
            List<Object> due = answersWithout(state, look, looks.get(look));
            for (int i = 0; i < due.size(); i++) {
                Call next = looks.get(look).get(i);
                checks.same(where + ", then " + next, tried.ask(next), due.get(i));
            }
        }
    }

    private List<Object> answersWithout(State state, int look, List<Call> calls) {
        return untouched.computeIfAbsent(state.name + look, key -> {
            Tried tried = new Tried(checks, state.name, state.made);
            List<Object> answers = new ArrayList<>();
            for (Call call : calls) {
                Object answer = tried.ask(call);
                checks.due(state.name + ": " + call + " is answered", answer instanceof String, false);
                answers.add(answer);
            }
            return answers;
        });
    }

    /** Several looks, each at an object of its own, for all of them together are over 512 calls. */
    private static List<List<Call>> looks(State state) {
        return List.of(lookAtNodes(state), lookAtBars(state), lookAtPanels(state),
            lookAtRounds(state), lookAtNewOnes(state));
    }

    private static void add(List<Call> calls, String name, Number... given) {
        calls.add(Call.of(name, given));
    }

    private static void addPlaces(List<Call> calls, int nodes) {
        for (int node = 0; node < nodes; node++) {
            for (int axis = 0; axis < 3; axis++) {
                add(calls, "at", node, axis);
            }
        }
    }

    private static void addRound(List<Call> calls) {
        add(calls, "residual");
        for (int axis = 0; axis < 3; axis++) {
            add(calls, "drag", axis);
            add(calls, "open", axis);
        }
    }

    private static List<Call> lookAtNodes(State state) {
        List<Call> calls = new ArrayList<>();
        addRound(calls);
        addPlaces(calls, state.nodes + 1);
        add(calls, "mirrored");
        for (int lists = 1; lists <= 20; lists++) {
            add(calls, "best", lists);
        }
        return calls;
    }

    private static List<Call> lookAtBars(State state) {
        List<Call> calls = new ArrayList<>();
        for (int bar = 0; bar <= state.bars; bar++) {
            add(calls, "pull", bar);
            add(calls, "over", bar);
        }
        return calls;
    }

    private static List<Call> lookAtPanels(State state) {
        List<Call> calls = new ArrayList<>();
        for (int panel = 0; panel <= state.panels; panel++) {
            add(calls, "whole", panel);
            add(calls, "edge", panel, 0);
            add(calls, "edge", 0, panel);
            add(calls, "sheet", panel, 0);
            add(calls, "sheet", panel, 1);
            add(calls, "cut", panel, 0, 0);
            add(calls, "cut", panel, 1, 1);
        }
        for (int row = 0; row < 10; row++) {
            add(calls, "cut", state.panels - 1, row, 0);
        }
        return calls;
    }

    private static List<Call> lookAtRounds(State state) {
        List<Call> calls = new ArrayList<>();
        int[] rounds = {1, 20, 300};
        for (int some : rounds) {
            add(calls, "run", some);
            addRound(calls);
        }
        addPlaces(calls, state.nodes);
        for (int bar = 0; bar < state.bars; bar++) {
            add(calls, "pull", bar);
        }
        for (int lists = 1; lists <= 20; lists++) {
            add(calls, "best", lists);
        }
        return calls;
    }

    /** What new ones are numbered, where they lie, and how many rows there are. */
    private static List<Call> lookAtNewOnes(State state) {
        List<Call> calls = new ArrayList<>();
        add(calls, "node", 7, 8, 9);
        add(calls, "node", -7, 8, 4);
        add(calls, "bar", 0, 1, 2, 0.5, 3);
        add(calls, "bar", state.nodes, state.nodes + 1, 2, 0.5, 3);
        add(calls, "panel", 60, 50, 4);
        add(calls, "panel", 330, 390, 2);
        for (int panel = state.panels; panel < state.panels + 2; panel++) {
            add(calls, "sheet", panel, 0);
            add(calls, "sheet", panel, 1);
            add(calls, "cut", panel, 1, 0);
        }
        add(calls, "current", 2.25, 0.5, 90);
        addPlaces(calls, state.nodes + 2);
        add(calls, "run", 3);
        addRound(calls);
        add(calls, "pull", state.bars);
        add(calls, "pull", state.bars + 1);
        add(calls, "wave", 1, 1, 1);
        addPlaces(calls, state.nodes + 2);
        return calls;
    }
}
