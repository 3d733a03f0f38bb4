/** Promises 1 to 5, 8, 13, 14 and 21: what nodes and bars take, and where nodes are. */
public final class NodesTest {
    private static final Checks C = new Checks();
    private static final int NONE = NetShapes.NONE;
    private static final double[] NO_NUMBERS =
        {Double.NaN, Double.POSITIVE_INFINITY, Double.NEGATIVE_INFINITY};

    public static void main(String[] args) {
        newObject();
        nodes();
        bars();
        barNumbers();
        fixed();
        lifts();
        catches();
        liftAndCatchTogether();
        places();
        opening();
        mirror();
        C.end("NodesTest");
    }

    private static void newObject() {
        NetShapes x = new NetShapes();
        C.due("1: run", x.run(300), NONE);
        C.due("1: residual", x.residual(), -1.0);
        for (int i = -1; i < 4; i++) {
            C.due("1: drag " + i, x.drag(i), 0.0);
            C.due("1: open " + i, x.open(i), -1.0);
            C.due("1: at " + i, x.at(i, i), 0.0);
            C.due("1: pull " + i, x.pull(i), -1.0);
            C.due("1: over " + i, x.over(i), NONE);
            C.due("1: fix " + i, x.fix(i), false);
            C.due("1: floats " + i, x.floats(i, 1.0), false);
            C.due("1: catchAt " + i, x.catchAt(i, 1.0), false);
            C.due("1: bar " + i, x.bar(i, i + 1, 1, 1, 1), NONE);
            C.due("1: cut " + i, x.cut(i, 0, 0), NONE);
            C.due("1: whole " + i, x.whole(i), false);
            C.due("1: edge " + i, x.edge(i, i), NONE);
            C.due("1: sheet " + i, x.sheet(i, 0), NONE);
            C.due("1: best " + i, x.best(i), NONE);
        }
        C.due("1: mirrored", x.mirrored(), true);
        C.due("1: wave tells rows", x.wave(0, 1, 0), 0);
        C.due("1: NONE", NONE, -1);
        stillWater();
        objectsAreApart();
    }

    private static void stillWater() {
        NetShapes x = new NetShapes();
        x.node(0, 0, 0);
        x.node(0, 0, 4);
        x.bar(0, 1, 4, 10, 1);
        C.due("1: run in still water", x.run(1), 0);
        for (int axis = 0; axis < 3; axis++) {
            C.due("1: drag in still water " + axis, x.drag(axis), 0.0);
        }
        C.due("1: residual in still water", x.residual(), 0.0);
    }

    private static void objectsAreApart() {
        NetShapes one = new NetShapes();
        NetShapes other = new NetShapes();
        one.node(1, 2, 3);
        one.panel(5, 5, 5);
        C.due("1: another object's node", other.at(0, 0), 0.0);
        C.due("1: another object's node count", other.node(9, 9, 9), 0);
        C.due("1: another object's panel", other.panel(1, 1, 1), 0);
    }

    private static void nodes() {
        NetShapes x = new NetShapes();
        double past = Math.nextUp(1000.0);
        double[] bad = {past, -past, 1000.125, -1e9, NO_NUMBERS[0], NO_NUMBERS[1], NO_NUMBERS[2]};
        for (double value : bad) {
            C.due("2: x " + value, x.node(value, 0, 0), NONE);
            C.due("2: y " + value, x.node(0, value, 0), NONE);
            C.due("2: z " + value, x.node(0, 0, value), NONE);
        }
        C.due("2: refused ones change nothing", x.open(0), -1.0);
        C.due("2: least", x.node(-1000, -1000, -1000), 0);
        C.due("2: greatest", x.node(1000, 1000, 1000), 1);
        for (int i = 2; i < 30; i++) {
            C.due("2: number " + i, x.node(i, i, i), i);
        }
        C.due("2: the 31st", x.node(0, 0, 0), NONE);
        C.due("2: the last one stands", x.at(29, 1), 29.0);
        C.due("2: none more", x.fix(30), false);
    }

    private static NetShapes three() {
        NetShapes x = new NetShapes();
        x.node(0, 0, 0);
        x.node(1, 0, 0);
        x.node(2, 0, 0);
        return x;
    }

    private static void bars() {
        NetShapes x = three();
        C.due("3: a below", x.bar(-1, 1, 1, 1, 1), NONE);
        C.due("3: b below", x.bar(1, -1, 1, 1, 1), NONE);
        C.due("3: a above", x.bar(3, 1, 1, 1, 1), NONE);
        C.due("3: b above", x.bar(1, 3, 1, 1, 1), NONE);
        C.due("3: a far above", x.bar(Integer.MAX_VALUE, 1, 1, 1, 1), NONE);
        C.due("3: b far below", x.bar(1, Integer.MIN_VALUE, 1, 1, 1), NONE);
        C.due("3: both the same", x.bar(1, 1, 1, 1, 1), NONE);
        C.due("3: short", x.bar(0, 1, Math.nextDown(0.125), 1, 1), NONE);
        C.due("3: long", x.bar(0, 1, Math.nextUp(1000.0), 1, 1), NONE);
        C.due("3: narrow", x.bar(0, 1, 1, -Double.MIN_VALUE, 1), NONE);
        C.due("3: wide", x.bar(0, 1, 1, Math.nextUp(10.0), 1), NONE);
        C.due("3: weak", x.bar(0, 1, 1, 1, -Double.MIN_VALUE), NONE);
        C.due("3: strong", x.bar(0, 1, 1, 1, Math.nextUp(1.0e6)), NONE);
        for (double value : NO_NUMBERS) {
            C.due("3: length " + value, x.bar(0, 1, value, 1, 1), NONE);
            C.due("3: width " + value, x.bar(0, 1, 1, value, 1), NONE);
            C.due("3: strength " + value, x.bar(0, 1, 1, 1, value), NONE);
        }
        C.due("3: all the least", x.bar(0, 1, 0.125, 0, 0), 0);
        C.due("3: all the greatest", x.bar(2, 0, 1000, 10, 1.0e6), 1);
    }

    private static void barNumbers() {
        NetShapes x = three();
        for (int i = 0; i < 60; i++) {
            C.due("3: number " + i, x.bar(i % 3, (i + 1) % 3, 1, 1, 1), i);
        }
        C.due("3: the 61st", x.bar(0, 1, 1, 1, 1), NONE);
        C.due("3: a run with 60", x.run(1) >= NONE, true);
        C.due("3: the last one has a pull", x.pull(59) >= 0, true);
        C.due("3: the 61st has none", x.pull(60), -1.0);
        C.due("3: so many are not overloaded", x.over(60), NONE);
    }

    private static void fixed() {
        NetShapes x = three();
        C.due("4: below", x.fix(-1), false);
        C.due("4: above", x.fix(3), false);
        C.due("4: far above", x.fix(Integer.MAX_VALUE), false);
        C.due("4: far below", x.fix(Integer.MIN_VALUE), false);
        C.due("4: 0", x.fix(0), true);
        C.due("4: 0 again", x.fix(0), true);
        x.catchAt(0, 100);
        x.catchAt(2, 100);
        C.due("4: run", x.run(1), NONE);
        C.due("4: a fixed node stays", x.at(0, 2), 0.0);
        C.due("4: a free one moves", x.at(2, 2), 0.0005 * 100);
        C.due("4: fixed from now on", x.fix(2), true);
        C.due("4: only fixed ones have forces", x.run(1), 0);
        C.due("4: they do not count", x.residual(), 0.0);
        C.due("4: it stays where it was fixed", x.at(2, 2), 0.0005 * 100);
    }

    private static void lifts() {
        NetShapes x = three();
        double past = Math.nextUp(1.0e5);
        C.due("5: below", x.floats(-1, 1), false);
        C.due("5: above", x.floats(3, 1), false);
        C.due("5: too much", x.floats(1, past), false);
        C.due("5: too little", x.floats(1, -past), false);
        for (double value : NO_NUMBERS) {
            C.due("5: " + value, x.floats(1, value), false);
        }
        C.due("5: refused ones change nothing", x.run(1), 0);
        C.due("5: a lift", x.floats(1, 200), true);
        x.run(1);
        C.due("5: upwards is less deep", x.at(1, 2), 0 - 0.0005 * 200);
        C.due("5: residual", x.residual(), 200.0);
        C.due("5: a new lift instead of the old one", x.floats(1, -40), true);
        x.run(1);
        C.due("5: residual of the new one", x.residual(), 40.0);
        C.due("5: greatest", x.floats(1, 1.0e5), true);
        x.run(1);
        C.due("5: residual of the greatest", x.residual(), 1.0e5);
        C.due("5: least", x.floats(1, -1.0e5), true);
        x.run(1);
        C.due("5: residual of the least", x.residual(), 1.0e5);
    }

    private static void catches() {
        NetShapes x = three();
        C.due("14: below", x.catchAt(-1, 1), false);
        C.due("14: above", x.catchAt(3, 1), false);
        C.due("14: too much", x.catchAt(1, Math.nextUp(1.0e5)), false);
        C.due("14: too little", x.catchAt(1, -Double.MIN_VALUE), false);
        for (double value : NO_NUMBERS) {
            C.due("14: " + value, x.catchAt(1, value), false);
        }
        C.due("14: refused ones change nothing", x.run(1), 0);
        C.due("14: a catch", x.catchAt(1, 200), true);
        x.run(1);
        C.due("14: down is deeper", x.at(1, 2), 0.0005 * 200);
        C.due("14: others stay", x.at(2, 2), 0.0);
        C.due("14: greatest", x.catchAt(1, 1.0e5), true);
        x.run(1);
        C.due("14: residual of the greatest", x.residual(), 1.0e5);
        C.due("14: none again", x.catchAt(1, 0), true);
        C.due("14: balance without", x.run(1), 0);
    }

    private static void liftAndCatchTogether() {
        NetShapes x = three();
        x.floats(1, 30);
        x.catchAt(1, 50);
        x.run(1);
        C.due("5, 14: catch less lift", x.residual(), 20.0);
        C.due("5, 14: down", x.at(1, 2), 0.0005 * 20);
        x.floats(1, 50);
        C.due("5, 14: in balance", x.run(1), 0);
    }

    private static void places() {
        NetShapes x = new NetShapes();
        x.node(1.5, -2.5, 3.5);
        x.node(4, 5, 6);
        C.due("8: x", x.at(0, 0), 1.5);
        C.due("8: y", x.at(0, 1), -2.5);
        C.due("8: z", x.at(0, 2), 3.5);
        C.due("8: second z", x.at(1, 2), 6.0);
        int[] wrong = {-1, 3, Integer.MAX_VALUE, Integer.MIN_VALUE};
        for (int i : wrong) {
            C.due("8: axis " + i, x.at(0, i), 0.0);
            C.due("8: node " + i, x.at(i, 0), 0.0);
        }
        C.due("8: node 2", x.at(2, 0), 0.0);
    }

    private static void opening() {
        NetShapes x = new NetShapes();
        x.node(3, 3, 3);
        for (int kind = 0; kind < 3; kind++) {
            C.due("13: one node " + kind, x.open(kind), 0.0);
        }
        x.node(-2, 7, 3.5);
        x.node(1, 8.5, 1);
        C.due("13: x", x.open(0), 5.0);
        C.due("13: y", x.open(1), 5.5);
        C.due("13: z", x.open(2), 2.5);
        int[] wrong = {-1, 3, Integer.MAX_VALUE, Integer.MIN_VALUE};
        for (int i : wrong) {
            C.due("13: kind " + i, x.open(i), -1.0);
        }
        x.fix(1);
        x.node(-5, 3, 3);
        C.due("13: fixed nodes and new ones too", x.open(0), 8.0);
    }

    private static void mirror() {
        NetShapes x = new NetShapes();
        x.node(3, 1, 2);
        C.due("21: the only one", x.mirrored(), false);
        x = new NetShapes();
        x.node(0, 1, 2);
        C.due("21: in the middle", x.mirrored(), true);
        x.node(3, 1, 2);
        C.due("21: alone", x.mirrored(), false);
        x.node(-3, 1, 2);
        C.due("21: a pair", x.mirrored(), true);
        x.node(4, 5, 6);
        x.node(-4, 5.5, 6);
        C.due("21: another y", x.mirrored(), false);
        x = new NetShapes();
        x.node(4, 5, 6);
        x.node(-4, 5, 6.5);
        C.due("21: another z", x.mirrored(), false);
        x = new NetShapes();
        x.node(4, 5, 6);
        x.node(4, 5, 6);
        C.due("21: the same side", x.mirrored(), false);
        x.node(-4, 5, 6);
        C.due("21: one stands for two", x.mirrored(), true);
        x = new NetShapes();
        x.node(-0.0, 0, 0);
        C.due("21: 0 less 0", x.mirrored(), true);
    }
}
