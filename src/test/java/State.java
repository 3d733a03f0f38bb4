import java.util.ArrayList;
import java.util.List;

/** What an object can be like before a call: the calls that make it so, and how much it holds. */
final class State {
    final String name;
    final List<Call> made = new ArrayList<>();
    int nodes = 0;
    int bars = 0;
    int panels = 0;
    int rows = 0;

    private State(String name) {
        this.name = name;
    }

    static List<State> all() {
        return List.of(empty(), small(), full());
    }

    static State empty() {
        return new State("empty");
    }

    static State small() {
        State state = new State("small");
        state.balancedRuns(3);
        state.grow(5, 6, 3, 3);
        return state;
    }

    /** As many of everything as the document lets in, and more balanced runs than are kept. */
    static State full() {
        State state = new State("full");
        state.balancedRuns(23);
        state.grow(30, 60, 10, 30);
        return state;
    }

    private void call(String name, Number... given) {
        made.add(Call.of(name, given));
    }

    private void addNode(double x, double y, double z) {
        call("node", x, y, z);
        nodes++;
    }

    private void addBar(int a, int b, double length, double width, double strong) {
        call("bar", a, b, length, width, strong);
        bars++;
    }

    /** A fixed plumb bar comes into balance at once, with a fuel by the current; the least is not
     * the latest. */
    private void balancedRuns(int runs) {
        addNode(0, 0, 0);
        addNode(0, 0, 1);
        addBar(0, 1, 0.75, 0.5, 10);
        call("fix", 0);
        call("fix", 1);
        rows = 1;
        for (int i = 0; i < runs; i++) {
            call("current", 0, 1 + i * 7 % 5 * 0.25, 0);
            call("run", 1);
        }
    }

    private void grow(int toNodes, int toBars, int toRows, int toPanels) {
        while (nodes < toNodes) {
            addNode(nodes % 6 * 1.5 - 4, nodes / 6 * 1.25, nodes * 0.375);
        }
        for (int i = 1; bars < toBars; i++) {
            addBar(i % nodes, (i + 1 + i / nodes) % nodes, 1 + i % 4 * 0.5, 0.0625, i * 40);
        }
        for (; rows < toRows; rows++) {
            call("current", rows * 1.25, 0.25 * rows, rows * 45 % 360);
        }
        for (int node = 2; node < 5; node++) {
            call("floats", node, 60 - 35 * node);
            call("catchAt", node, 15 * node);
        }
        for (; panels < toPanels; panels++) {
            call("panel", 40 + panels * 9, 150 - panels * 4, 3 + panels * 5 % 7);
        }
        call("foul", 0.5);
        call("wave", 2, 3, 40);
        call("run", 2);
    }
}
