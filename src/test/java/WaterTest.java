/** Promises 6, 19 and 20: current rows, foul ropes and waves, seen by the drag of a plumb bar. */
public final class WaterTest {
    private static final Checks C = new Checks();
    private static final int NONE = NetShapes.NONE;
    private static final double H = 0.7071067811865476;
    private static final double[] NO_NUMBERS =
        {Double.NaN, Double.POSITIVE_INFINITY, Double.NEGATIVE_INFINITY};

    public static void main(String[] args) {
        directions();
        refused();
        tenRows();
        betweenRows();
        orderDoesNotMatter();
        oneRow();
        alongTheBar();
        slowestWater();
        fouling();
        waves();
        C.end("WaterTest");
    }

    /** A fixed plumb bar of length 1 whose middle is at a depth; 2 * q is the speed there. */
    private static NetShapes plumb(double depth) {
        NetShapes x = new NetShapes();
        x.node(0, 0, depth - 0.5);
        x.node(0, 0, depth + 0.5);
        x.bar(0, 1, 1, 1.0 / 256, 1);
        x.fix(0);
        x.fix(1);
        return x;
    }

    private static void flow(String what, NetShapes x, double u, double v) {
        C.due(what + ": run", x.run(1), 0);
        double q = 0.5 * Model.root(u * u + v * v);
        C.due(what + ": towards x", x.drag(0), 2 * q * u);
        C.due(what + ": towards y", x.drag(1), 2 * q * v);
        C.due(what + ": down", x.drag(2), 0.0);
    }

    private static void directions() {
        double s = 3;
        double[][] due = {{s, 0}, {s * H, s * H}, {0, s}, {0 - s * H, s * H}, {0 - s, 0},
            {0 - s * H, 0 - s * H}, {0, 0 - s}, {s * H, 0 - s * H}};
        for (int i = 0; i < 8; i++) {
            NetShapes x = plumb(7);
            C.due("6: direction " + 45 * i, x.current(7, s, 45 * i), true);
            flow("6: direction " + 45 * i, x, due[i][0], due[i][1]);
        }
    }

    private static void refused() {
        NetShapes x = plumb(0);
        double[] wrong = {-45, 360, 1, 44.999, Math.nextUp(45.0), 405, NO_NUMBERS[0],
            NO_NUMBERS[1], NO_NUMBERS[2]};
        for (double direction : wrong) {
            C.due("6: direction " + direction, x.current(0, 1, direction), false);
        }
        C.due("6: slow", x.current(0, -Double.MIN_VALUE, 0), false);
        C.due("6: fast", x.current(0, Math.nextUp(10.0), 0), false);
        C.due("6: above", x.current(-Math.nextUp(1000.0), 1, 0), false);
        C.due("6: below", x.current(Math.nextUp(1000.0), 1, 0), false);
        for (double value : NO_NUMBERS) {
            C.due("6: depth " + value, x.current(value, 1, 0), false);
            C.due("6: speed " + value, x.current(0, value, 0), false);
        }
        C.due("6: no rows by refused ones", x.wave(0, 1, 0), 0);
        flow("6: still", x, 0, 0);
        C.due("6: least", x.current(-1000, 0, 0), true);
        C.due("6: greatest", x.current(1000, 10, 315), true);
        C.due("6: two rows", x.wave(0, 1, 0), 2);
    }

    private static void tenRows() {
        NetShapes x = plumb(50);
        for (int i = 0; i < 10; i++) {
            C.due("6: row " + i, x.current(10 * i, 1, 0), true);
        }
        C.due("6: the 11th", x.current(95, 1, 0), false);
        C.due("6: ten rows", x.wave(0, 1, 0), 10);
        flow("6: before it is replaced", x, 1, 0);
        C.due("6: replaced among ten", x.current(50, 4, 90), true);
        C.due("6: still ten rows", x.wave(0, 1, 0), 10);
        flow("6: after it is replaced", x, 0, 4);
        C.due("6: the first replaced", x.current(-0.0, 2, 0), true);
        C.due("6: the last replaced", x.current(90, 2, 0), true);
        C.due("6: a wrong one is not replaced", x.current(50, 11, 90), false);
        flow("6: after a refused one", x, 0, 4);
    }

    private static NetShapes layered(double depth) {
        NetShapes x = plumb(depth);
        x.current(2, 1, 0);
        x.current(10, 4, 90);
        x.current(13, 2, 180);
        return x;
    }

    private static void betweenRows() {
        flow("6: above the first", layered(-5), 1, 0);
        flow("6: at the first", layered(2), 1, 0);
        flow("6: between", layered(4), 1 + (0 - 1) * ((4.0 - 2) / (10.0 - 2)),
            0 + (4.0 - 0) * ((4.0 - 2) / (10.0 - 2)));
        flow("6: at the second", layered(10), 0, 4);
        flow("6: between the second and the third", layered(11),
            0 + (-2.0 - 0) * ((11.0 - 10) / (13.0 - 10)),
            4 + (0 - 4.0) * ((11.0 - 10) / (13.0 - 10)));
        flow("6: at the last", layered(13), -2, 0);
        flow("6: below the last", layered(200), -2, 0);
    }

    private static void orderDoesNotMatter() {
        NetShapes x = plumb(4);
        x.current(13, 2, 180);
        x.current(2, 1, 0);
        x.current(-7, 9, 45);
        x.current(10, 4, 90);
        flow("6: told in another order", x, 0.75, 1);
    }

    private static void oneRow() {
        for (int depth = -10; depth <= 10; depth += 10) {
            NetShapes x = plumb(depth);
            x.current(0, 2, 90);
            flow("6: one row, seen from " + depth, x, 0, 2);
        }
    }

    private static void alongTheBar() {
        NetShapes x = new NetShapes();
        x.node(0, 0, 0);
        x.node(4, 0, 0);
        x.bar(0, 1, 4, 1, 1);
        x.current(0, 2, 0);
        C.due("6: a current along the bar drags nothing", x.run(1), 0);
        C.due("6: along, x", x.drag(0), 0.0);
        C.due("6: along, y", x.drag(1), 0.0);
    }

    /** ROOT is not a true root of small numbers: its first guess is only halved thirty times. */
    private static void slowestWater() {
        NetShapes x = plumb(0);
        x.current(0, 1.0e-150, 0);
        C.due("6: slowest, run", x.run(1), 0);
        C.due("6: slowest, drag", x.drag(0), 1.0 / (1L << 31) * 1.0e-150);
        for (double speed = 1.0; speed > 1.0e-15; speed *= 0.3) {
            x = plumb(0);
            x.current(0, speed, 225);
            flow("6: speed " + speed, x, 0 - speed * H, 0 - speed * H);
        }
    }

    private static void fouling() {
        NetShapes x = plumb(0);
        x.current(0, 2, 0);
        x.run(1);
        C.due("19: clean", x.drag(0), 4.0);
        C.due("19: too little", x.foul(-Double.MIN_VALUE), false);
        C.due("19: too much", x.foul(Math.nextUp(5.0)), false);
        for (double value : NO_NUMBERS) {
            C.due("19: " + value, x.foul(value), false);
        }
        x.run(1);
        C.due("19: refused ones change nothing", x.drag(0), 4.0);
        C.due("19: a half", x.foul(0.5), true);
        C.due("19: the latest round stands", x.drag(0), 4.0);
        x.run(1);
        C.due("19: a half more", x.drag(0), 6.0);
        C.due("19: greatest", x.foul(5), true);
        x.run(1);
        C.due("19: six times", x.drag(0), 24.0);
        C.due("19: clean again", x.foul(0), true);
        x.run(1);
        C.due("19: as at first", x.drag(0), 4.0);
    }

    private static void waves() {
        NetShapes x = plumb(0);
        C.due("20: no rows", x.wave(30, 1, 100), 0);
        flow("20: still water has no waves", x, 0, 0);
        x.current(0, 1, 0);
        flow("20: greatest", x, 16, 0);
        C.due("20: one row", x.wave(6, 2, 25), 1);
        flow("20: a half more", x, 1.5, 0);
        C.due("20: low", x.wave(-Double.MIN_VALUE, 5, 50), NONE);
        C.due("20: high", x.wave(Math.nextUp(30.0), 5, 50), NONE);
        C.due("20: quick", x.wave(3, Math.nextDown(1.0), 50), NONE);
        C.due("20: slow", x.wave(3, Math.nextUp(60.0), 50), NONE);
        C.due("20: n -1", x.wave(3, 5, -1), NONE);
        C.due("20: n 101", x.wave(3, 5, 101), NONE);
        C.due("20: n far", x.wave(3, 5, Integer.MIN_VALUE), NONE);
        for (double value : NO_NUMBERS) {
            C.due("20: height " + value, x.wave(value, 5, 50), NONE);
            C.due("20: period " + value, x.wave(3, value, 50), NONE);
        }
        flow("20: refused ones change nothing", x, 1.5, 0);
        double share = 7.3 / (4.9 + 1.0) * 37 / 100;
        C.due("20: in the lines' order", x.wave(7.3, 4.9, 37), 1);
        flow("20: in the lines' order", x, 1 * (1 + share), 0);
        C.due("20: longest period", x.wave(30, 60, 100), 1);
        C.due("20: none again", x.wave(0, 1, 0), 1);
        flow("20: as at first", x, 1, 0);
    }
}
