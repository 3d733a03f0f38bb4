/** Promises 7, 9 to 12 and 22: rounds, and what the latest one and the latest runs told. */
public final class RunTest {
    private static final Checks C = new Checks();
    private static final int NONE = NetShapes.NONE;
    private static final int[] FAR = {Integer.MIN_VALUE, -1, Integer.MAX_VALUE};

    public static void main(String[] args) {
        rounds();
        refusedRuns();
        roundsCount();
        edgeOfBalance();
        farthestStep();
        pulls();
        shapeOfPull();
        residuals();
        drags();
        noLengthNoDrag();
        shortestBar();
        overloads();
        bestRuns();
        bestOfTwenty();
        bestIsOpen();
        C.end("RunTest");
    }

    private static NetShapes one(double load) {
        NetShapes x = new NetShapes();
        x.node(0, 0, 0);
        x.catchAt(0, load);
        return x;
    }

    private static void rounds() {
        NetShapes x = one(10);
        C.due("7: never in balance", x.run(3), NONE);
        C.due("7: moved in each round", x.at(0, 2), 0.0005 * 10 + 0.0005 * 10 + 0.0005 * 10);
        C.due("7: one more", x.run(1), NONE);
        x = one(0);
        C.due("7: at once", x.run(300), 0);
        C.due("7: at once with one round", x.run(1), 0);
        C.due("7: nothing moved", x.at(0, 2), 0.0);
    }

    private static void refusedRuns() {
        NetShapes x = one(10);
        int[] wrong = {Integer.MIN_VALUE, -1, 0, 301, Integer.MAX_VALUE};
        for (int rounds : wrong) {
            C.due("7: run " + rounds, x.run(rounds), NONE);
            C.due("7: nothing done by " + rounds, x.at(0, 2), 0.0);
            C.due("7: no residual by " + rounds, x.residual(), -1.0);
        }
        C.due("7: 300", x.run(300), NONE);
        C.due("7: 300 rounds are done", x.at(0, 2) > 1.4999 && x.at(0, 2) < 1.5001, true);
        C.due("7: no nodes", new NetShapes().run(1), NONE);
    }

    private static NetShapes hanging() {
        NetShapes x = new NetShapes();
        x.node(0, 0, 0);
        x.node(0, 0, 3);
        x.bar(0, 1, 3, 0, 1000);
        x.fix(0);
        x.catchAt(1, 200);
        return x;
    }

    private static void roundsCount() {
        NetShapes x = hanging();
        int done = x.run(300);
        C.due("7: comes into balance", done > 1, true);
        double deep = x.at(1, 2);
        NetShapes y = hanging();
        C.due("7: the round in balance counts among those allowed", y.run(done), NONE);
        C.due("7: all moves are done before it", y.at(1, 2), deep);
        C.due("7: then at once", y.run(1), 0);
        NetShapes z = hanging();
        C.due("7: just enough", z.run(done + 1), done);
        C.due("7: the balanced round moves nothing", z.at(1, 2), deep);
    }

    private static void edgeOfBalance() {
        C.due("7: 1.0 is not in balance", one(1.0).run(1), NONE);
        C.due("7: below 1.0 is", one(Math.nextDown(1.0)).run(1), 0);
        NetShapes x = one(0);
        x.floats(0, 1.0);
        C.due("7: -1.0 is not in balance", x.run(1), NONE);
        x.fix(0);
        C.due("7: all fixed", x.run(1), 0);
    }

    private static void farthestStep() {
        double[] loads = {499, 500, 501, 100000};
        double[] steps = {0.0005 * 499, 0.0005 * 500, 0.25, 0.25};
        for (int i = 0; i < loads.length; i++) {
            NetShapes x = one(loads[i]);
            x.run(1);
            C.due("7: step down for " + loads[i], x.at(0, 2), steps[i]);
            x = one(0);
            x.floats(0, loads[i]);
            x.run(1);
            C.due("7: step up for " + loads[i], x.at(0, 2), -steps[i]);
        }
    }

    private static NetShapes stretched(double far, double length, double strong) {
        NetShapes x = new NetShapes();
        x.node(0, 0, 0);
        x.node(far, 0, 0);
        x.bar(0, 1, length, 0, strong);
        x.fix(0);
        x.fix(1);
        return x;
    }

    private static void pulls() {
        NetShapes x = stretched(5, 4, 100);
        C.due("9: no round yet", x.pull(0), -1.0);
        x.run(1);
        double l = Model.root(25.0);
        C.due("9: pull", x.pull(0), 2000 * (l - 4) / 4);
        x.bar(1, 0, 8, 0, 1);
        C.due("9: no round since it was made", x.pull(1), -1.0);
        C.due("9: the older one stands", x.pull(0), 2000 * (l - 4) / 4);
        x.run(301);
        C.due("9: a refused run is no round", x.pull(1), -1.0);
        x.run(1);
        C.due("9: slack", x.pull(1), 0.0);
        C.due("9: none such", x.pull(2), -1.0);
        for (int i : FAR) {
            C.due("9: " + i, x.pull(i), -1.0);
        }
        x = stretched(1, 1, 1);
        x.run(1);
        C.due("9: its natural length", x.pull(0), 0.0);
    }

    private static void shapeOfPull() {
        NetShapes x = new NetShapes();
        x.node(0, 0, 0);
        x.node(2, 3, 6);
        x.bar(0, 1, 6.5, 0, 1);
        x.run(1);
        double l = Model.root(49);
        double p = 2000 * (l - 6.5) / 6.5 / l;
        double[] d = {2, 3, 6};
        for (int axis = 0; axis < 3; axis++) {
            C.due("7: a goes to b " + axis, x.at(0, axis), 0.0005 * (p * d[axis]));
            C.due("7: b goes to a " + axis, x.at(1, axis), d[axis] - 0.0005 * (p * d[axis]));
        }
    }

    private static void residuals() {
        NetShapes x = one(7);
        C.due("10: before any", x.residual(), -1.0);
        x.run(1);
        C.due("10: one node", x.residual(), 7.0);
        x.node(0, 0, 0);
        x.floats(1, 9);
        C.due("10: of the latest round", x.residual(), 7.0);
        x.run(1);
        C.due("10: the greatest size", x.residual(), 9.0);
        x.fix(1);
        x.run(1);
        C.due("10: fixed ones do not count", x.residual(), 7.0);
        x.fix(0);
        x.run(1);
        C.due("10: all fixed", x.residual(), 0.0);
        x = stretched(5, 4, 1);
        x.node(5, 5, 5);
        x.run(1);
        C.due("10: a free one without a force", x.residual(), 0.0);
    }

    private static void drags() {
        NetShapes x = new NetShapes();
        x.node(0, 0, 0);
        x.node(0, 0, 1);
        x.node(0, 0, 2);
        x.bar(0, 1, 1, 1, 1);
        x.bar(1, 2, 1, 2, 1);
        x.current(0, 2, 90);
        C.due("11: before any", x.drag(1), 0.0);
        x.run(1);
        C.due("11: x", x.drag(0), 0.0);
        C.due("11: y", x.drag(1), 2 * 512.0 + 2 * 1024.0);
        C.due("11: z", x.drag(2), 0.0);
        C.due("11: a half of a bar's drag for each of its nodes", x.residual(), 512.0 + 1024.0);
        C.due("11: other axis", x.drag(3), 0.0);
        for (int i : FAR) {
            C.due("11: axis " + i, x.drag(i), 0.0);
        }
        slantedDrag();
    }

    private static void slantedDrag() {
        NetShapes x = new NetShapes();
        x.node(0, 0, 0);
        x.node(3, 0, 4);
        x.bar(0, 1, 5, 0.5, 1);
        x.fix(0);
        x.fix(1);
        x.current(0, 2, 0);
        C.due("11: slanted", x.run(1), 0);
        double l = Model.root(25);
        double w = 2.0 * 3 / l;
        double nx = 2.0 - w * 3 / l;
        double nz = 0 - w * 4 / l;
        double q = 128 * 0.5 * 1 * 5 * Model.root(nx * nx + nz * nz);
        C.due("11: slanted x", x.drag(0), 2 * q * nx);
        C.due("11: slanted y", x.drag(1), 0.0);
        C.due("11: slanted z", x.drag(2), 2 * q * nz);
    }

    private static void noLengthNoDrag() {
        NetShapes x = new NetShapes();
        x.node(3, 3, 3);
        x.node(3, 3, 3);
        x.bar(0, 1, 1, 1, 1);
        x.current(0, 5, 45);
        C.due("7: L of 0", x.run(1), 0);
        C.due("7: L of 0, drag", x.drag(0), 0.0);
        C.due("7: L of 0, pull", x.pull(0), 0.0);
        C.due("7: L of 0, residual", x.residual(), 0.0);
    }

    private static void shortestBar() {
        NetShapes x = new NetShapes();
        x.node(0, 0, 0);
        x.node(1.0e-10, 0, 0);
        x.bar(0, 1, 1, 1.0 / 256, 1);
        x.fix(0);
        x.fix(1);
        x.current(0, 1, 0);
        C.due("7: shortest, run", x.run(1), 0);
        double l = Model.root(1.0e-10 * 1.0e-10);
        double w = 1.0e-10 / l;
        double nx = 1 - w * 1.0e-10 / l;
        C.due("7: shortest, drag", x.drag(0), Model.root(nx * nx) * nx);
        C.due("7: L is not the true root there", nx > 0.9 && nx < 0.97, true);
        x.node(0, 1.0e-200, 0);
        x.bar(0, 2, 1, 1.0 / 256, 1);
        x.fix(2);
        C.due("7: too short to have an L, run", x.run(1), 0);
        C.due("7: too short to have an L, drag", x.drag(0), Model.root(nx * nx) * nx);
    }

    private static void overloads() {
        NetShapes x = new NetShapes();
        x.node(0, 0, 0);
        x.node(5, 0, 0);
        x.fix(0);
        x.fix(1);
        double pull = 2000 * (Model.root(25) - 4) / 4;
        x.bar(0, 1, 4, 0, Math.nextUp(pull));
        x.bar(0, 1, 4, 0, Math.nextDown(pull));
        x.bar(0, 1, 4, 0, pull);
        x.bar(0, 1, 10, 0, 0);
        x.bar(1, 0, 4, 0, 0);
        C.due("12: before any", x.over(0), NONE);
        x.run(1);
        C.due("12: first", x.over(0), 1);
        C.due("12: second", x.over(1), 4);
        C.due("12: third", x.over(2), NONE);
        for (int i : FAR) {
            C.due("12: " + i, x.over(i), NONE);
        }
        x.bar(0, 1, 1, 0, 0);
        C.due("12: no round since it was made", x.over(2), NONE);
        x.run(1);
        C.due("12: after a round", x.over(2), 5);
    }

    /** A fixed plumb bar: each run comes into balance at once, with a fuel by the current. */
    private static NetShapes plumb() {
        NetShapes x = new NetShapes();
        x.node(0, 0, 0);
        x.node(0, 0, 1);
        x.bar(0, 1, 1, 1, 1);
        x.fix(0);
        x.fix(1);
        return x;
    }

    private static void runWith(NetShapes x, double speed, double direction) {
        x.current(0, speed, direction);
        C.due("22: run", x.run(1), 0);
    }

    private static void bestRuns() {
        NetShapes x = plumb();
        C.due("22: none yet", x.best(1), NONE);
        C.due("22: none yet of 20", x.best(20), NONE);
        runWith(x, 1, 0);
        C.due("22: one", x.best(20), 0);
        runWith(x, 3, 0);
        C.due("22: the latest alone", x.best(1), 0);
        C.due("22: of two", x.best(2), 1);
        runWith(x, 2, 180);
        C.due("22: a size, not below 0", x.best(3), 2);
        C.due("22: of the latest two", x.best(2), 0);
        runWith(x, 1, 180);
        C.due("22: of the same the later one", x.best(20), 0);
        runWith(x, 5, 90);
        C.due("22: only drag(0) counts", x.best(20), 0);
        int[] wrong = {Integer.MIN_VALUE, -1, 0, 21, Integer.MAX_VALUE};
        for (int lists : wrong) {
            C.due("22: lists " + lists, x.best(lists), NONE);
        }
        runWith(x, 6, 0);
        x.node(0, 0, 0);
        x.catchAt(2, 100);
        C.due("22: a run without balance", x.run(5), NONE);
        C.due("22: is not among them", x.best(1), 0);
        C.due("22: and moves none back", x.best(2), 1);
        x.run(0);
        C.due("22: nor does a refused one", x.best(2), 1);
    }

    private static void bestOfTwenty() {
        NetShapes x = plumb();
        for (int i = 1; i <= 47; i++) {
            runWith(x, 0.125 * i, 0);
            C.due("22: the oldest kept after " + i, x.best(20), Math.min(i, 20) - 1);
            C.due("22: the older one of two after " + i, x.best(2), Math.min(i, 2) - 1);
            C.due("22: the latest after " + i, x.best(1), 0);
        }
        runWith(x, 0, 0);
        for (int i = 0; i < 19; i++) {
            C.due("22: going back " + i, x.best(20), i);
            runWith(x, 9, 0);
        }
        C.due("22: the last time", x.best(20), 19);
        runWith(x, 10, 0);
        C.due("22: the 21st is forgotten", x.best(20), 1);
    }

    private static void bestIsOpen() {
        NetShapes x = plumb();
        runWith(x, 2, 0);
        x.node(0, 4, 0);
        x.fix(2);
        runWith(x, 3, 0);
        C.due("22: more drag, but wide open", x.best(2), 0);
        x.node(0, 1000, 1000);
        x.fix(3);
        C.due("22: open as it was then", x.best(2), 0);
        double[] speeds = {1.375, 1.4375};
        for (int i = 0; i < 2; i++) {
            NetShapes z = plumb();
            runWith(z, 1, 0);
            z.node(0, -1, 0);
            z.fix(2);
            runWith(z, speeds[i], 0);
            C.due("22: over 1 and the opening, " + speeds[i], z.best(2), i);
        }
        NetShapes y = plumb();
        runWith(y, 2, 0);
        y.node(1000, 0, 1000);
        y.fix(2);
        runWith(y, 2.125, 0);
        C.due("22: x and z do not count", y.best(2), 1);
    }
}
