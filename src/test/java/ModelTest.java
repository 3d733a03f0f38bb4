import java.util.Random;

/** Long runs of calls with good arguments: the class answers as the document's lines do. */
public final class ModelTest {
    private static final Checks C = new Checks();
    private static final int MOST_LOOKED = 9;
    private static final int SEEDS = 600;

    private static int balanced = 0;

    /** How far nodes lie and how hard they are pulled; a run is made after one change in so many. */
    private record Kind(double far, int nodes, int bars, double newton, int changesARun) {
        boolean calm() {
            return changesARun == 1;
        }

        int mostCompared() {
            return nodes * 3 + bars * 2 + 3 + 3 + 1 + 20 + 1;
        }
    }

    /** Small and hardly pulled, so that most runs come into balance, each with its own fuel. */
    private static final Kind CALM = new Kind(2, 4, 6, 40, 1);

    public static void main(String[] args) {
        for (int seed = 0; seed < SEEDS && C.wrong() == 0; seed++) {
            oneRun(new Random(seed), seed, wild(seed));
        }
        balanced = 0;
        for (int seed = SEEDS; seed < 2 * SEEDS && C.wrong() == 0; seed++) {
            oneRun(new Random(seed), seed, CALM);
        }
        C.due("calm nets come into balance often", balanced > 20 * SEEDS, true);
        C.end("ModelTest");
    }

    private static Kind wild(int seed) {
        double far = seed % 11 == 0 ? 1.0e-9 : seed % 7 == 0 ? 1000 : seed % 3 == 0 ? 100 : 6;
        return new Kind(far, 30, 60, 300, 6);
    }

    private static double coarse(Random r, int eighths) {
        return (r.nextInt(2 * eighths + 1) - eighths) / 8.0;
    }

    /** Round numbers half of the time, so that nodes and rows meet; others with all their bits. */
    private static double place(Random r, double far) {
        return r.nextBoolean() ? coarse(r, (int) (far * 8)) : (2 * r.nextDouble() - 1) * far;
    }

    private static void oneRun(Random r, int seed, Kind kind) {
        NetShapes x = new NetShapes();
        Model m = new Model();
        int before = C.asked();
        int first = 2 + r.nextInt(kind.calm() ? 3 : 12);
        for (int i = 0; i < first; i++) {
            addNode(r, x, m, kind);
        }
        // Each answer is of one call, so the answers tell how many calls the object has had.
        while (C.asked() - before < Tried.MOST_CALLS - kind.mostCompared() - MOST_LOOKED) {
            change(r, x, m, kind);
            if (r.nextInt(kind.changesARun()) == 0) {
                int rounds = 1 + r.nextInt(kind.calm() || r.nextInt(4) == 0 ? 300 : 20);
                int done = m.run(rounds);
                balanced += done >= 0 ? 1 : 0;
                C.due(seed + ": run " + rounds, x.run(rounds), done);
                look(r, seed, x, m);
            }
        }
        compare(seed, x, m);
        C.due(seed + ": within 512 calls", C.asked() - before <= Tried.MOST_CALLS, true);
    }

    /** A few answers after each run; all of them would soon be more than 512 calls. */
    private static void look(Random r, int seed, NetShapes x, Model m) {
        int node = r.nextInt(m.nodes.size());
        int axis = r.nextInt(3);
        C.due(seed + ": at " + node, x.at(node, axis), m.at(node, axis));
        C.due(seed + ": open " + axis, x.open(axis), m.open(axis));
        C.due(seed + ": drag 0", x.drag(0), m.dragX);
        C.due(seed + ": residual", x.residual(), m.residual);
        C.due(seed + ": over " + axis, x.over(axis), m.over(axis));
        C.due(seed + ": best 3", x.best(3), m.best(3));
        C.due(seed + ": mirrored", x.mirrored(), m.mirrored());
    }

    private static void addNode(Random r, NetShapes x, Model m, Kind kind) {
        double px = place(r, kind.far());
        double py = place(r, kind.far());
        double pz = place(r, kind.far());
        if (kind.calm() && !m.nodes.isEmpty()) {
            // The last one's image, so that some nets are mirrored.
            Model.Node last = m.nodes.get(m.nodes.size() - 1);
            px = 0 - last.x;
            py = last.y;
            pz = r.nextInt(5) == 0 ? pz : last.z;
        }
        boolean room = m.nodes.size() < 30;
        C.due("node", x.node(px, py, pz), room ? m.nodes.size() : -1);
        if (room) {
            m.node(px, py, pz);
        }
    }

    private static void addBar(Random r, NetShapes x, Model m, Kind kind) {
        int a = r.nextInt(m.nodes.size());
        int b = r.nextInt(m.nodes.size());
        double length = Math.min(1000, 0.125 + r.nextDouble() * kind.far());
        double width = r.nextInt(5) == 0 ? 0 : r.nextDouble() * (r.nextInt(9) == 0 ? 10 : 0.25);
        double strong = r.nextInt(5) == 0 ? 0 : r.nextDouble() * 500;
        boolean good = a != b && m.bars.size() < 60;
        C.due("bar", x.bar(a, b, length, width, strong), good ? m.bars.size() : -1);
        if (good) {
            m.bar(a, b, length, width, strong);
        }
    }

    private static void addRow(Random r, NetShapes x, Model m, Kind kind) {
        double depth = place(r, kind.far());
        boolean fast = !kind.calm() && r.nextInt(6) == 0;
        double most = fast ? 10 : r.nextInt(6) == 0 ? 1.0e-9 : kind.calm() ? 0.25 : 1;
        double speed = r.nextDouble() * most;
        int direction = 45 * r.nextInt(8);
        boolean good = m.rows.size() < 10 || m.rows.containsKey(depth + 0.0);
        C.due("current", x.current(depth, speed, direction), good);
        if (good) {
            m.current(depth, speed, direction);
        }
    }

    private static void change(Random r, NetShapes x, Model m, Kind kind) {
        int node = r.nextInt(m.nodes.size());
        switch (r.nextInt(12)) {
            case 0:
                if (!kind.calm() || m.nodes.size() < kind.nodes()) {
                    addNode(r, x, m, kind);
                }
                break;
            case 1:
                C.due("fix", x.fix(node), true);
                m.nodes.get(node).fixed = true;
                break;
            case 2:
                m.nodes.get(node).lift = (2 * r.nextDouble() - 1) * kind.newton();
                C.due("floats", x.floats(node, m.nodes.get(node).lift), true);
                break;
            case 3:
                m.nodes.get(node).load = r.nextDouble() * kind.newton();
                C.due("catchAt", x.catchAt(node, m.nodes.get(node).load), true);
                break;
            case 4:
                m.foul = r.nextDouble() * 5;
                C.due("foul", x.foul(m.foul), true);
                break;
            case 5:
                double height = r.nextDouble() * 30;
                double period = 1 + r.nextDouble() * 59;
                int n = r.nextInt(101);
                m.wave = height / (period + 1.0) * n / 100;
                C.due("wave", x.wave(height, period, n), m.rows.size());
                break;
            case 6:
            case 7:
                addRow(r, x, m, kind);
                break;
            default:
                if (!kind.calm() || m.bars.size() < kind.bars()) {
                    addBar(r, x, m, kind);
                }
                break;
        }
    }

    private static void compare(int seed, NetShapes x, Model m) {
        for (int node = 0; node < m.nodes.size(); node++) {
            for (int axis = 0; axis < 3; axis++) {
                C.due(seed + ": at " + node, x.at(node, axis), m.at(node, axis));
            }
        }
        for (int bar = 0; bar < m.bars.size(); bar++) {
            C.due(seed + ": pull " + bar, x.pull(bar), m.bars.get(bar).pull);
            C.due(seed + ": over " + bar, x.over(bar), m.over(bar));
        }
        for (int axis = 0; axis < 3; axis++) {
            C.due(seed + ": open " + axis, x.open(axis), m.open(axis));
        }
        C.due(seed + ": drag 0", x.drag(0), m.dragX);
        C.due(seed + ": drag 1", x.drag(1), m.dragY);
        C.due(seed + ": drag 2", x.drag(2), m.dragZ);
        C.due(seed + ": residual", x.residual(), m.residual);
        C.due(seed + ": mirrored", x.mirrored(), m.mirrored());
        for (int lists = 1; lists <= 20; lists++) {
            C.due(seed + ": best " + lists, x.best(lists), m.best(lists));
        }
    }
}
