/**
 * Every sentence of the document that refuses a call, promises 2 to 20, 22 and 23: the answer, in an
 * empty, a small and a full object, and that nothing has changed by it ("What is refused changes
 * nothing."). A call that is wrong in more than one way is answered in the same way.
 */
public final class RefusedTest {
    private static final Checks C = new Checks();
    private static final Refusals R = new Refusals(C);
    private static final int NONE = NetShapes.NONE;
    private static final double NO_NUMBER = Double.NaN;
    private static final double ENDLESS = Double.POSITIVE_INFINITY;

    public static void main(String[] args) {
        for (State state : State.all()) {
            stateIsAsTold(state);
            nodes(state);
            bars(state);
            loads(state);
            rows(state);
            runs(state);
            questions(state);
            panels(state);
            water(state);
        }
        fullOnes(State.full());
        C.end("RefusedTest");
    }

    /** All that makes a state is taken; only its last run, of two rounds, finds no balance. */
    private static void stateIsAsTold(State s) {
        Tried tried = new Tried(C, s.name);
        for (int i = 0; i < s.made.size(); i++) {
            Object got = tried.ask(s.made.get(i));
            boolean taken = got instanceof Integer ? (Integer) got >= 0 : got.equals(true);
            C.due(s.name + ": " + s.made.get(i), taken, i < s.made.size() - 1);
        }
        tried.due(s.rows, "wave", 0, 1, 0).due(s.nodes > 0, "fix", s.nodes - 1);
        tried.due(false, "fix", s.nodes).due(false, "whole", s.panels).due(-1.0, "pull", s.bars);
    }

    /** The numbers just outside least .. greatest, and those far outside. */
    private static double[] outside(double least, double greatest) {
        return new double[] {Math.nextDown(least), Math.nextUp(greatest), least - 1, greatest + 1,
            -Double.MAX_VALUE, Double.MAX_VALUE, -ENDLESS, ENDLESS, NO_NUMBER};
    }

    private static int[] outsideInts(int least, int greatest) {
        return new int[] {least - 1, greatest + 1, Integer.MIN_VALUE, Integer.MAX_VALUE};
    }

    /** The numbers of nodes, bars or panels that there are none of. */
    private static int[] noneSuch(int count) {
        return new int[] {-1, count, count + 1, Integer.MIN_VALUE, Integer.MAX_VALUE};
    }

    private static void nodes(State s) {
        for (double bad : outside(-1000, 1000)) {
            R.refused("2: x is not -1000 .. 1000", s, NONE, "node", bad, 0, 0);
            R.refused("2: y is not -1000 .. 1000", s, NONE, "node", 0, bad, 0);
            R.refused("2: z2 is not -1000 .. 1000", s, NONE, "node", 0, 0, bad);
        }
        R.refused("2: all three are not", s, NONE, "node", 1001, NO_NUMBER, -ENDLESS);
    }

    private static void bars(State s) {
        for (int bad : noneSuch(s.nodes)) {
            R.refused("3: no such a", s, NONE, "bar", bad, 0, 1, 1, 1);
            R.refused("3: no such b", s, NONE, "bar", 0, bad, 1, 1, 1);
            R.refused("3: no such a and b", s, NONE, "bar", bad, bad, 0, 11, -1);
        }
        for (int node = 0; node < s.nodes; node++) {
            R.refused("3: both are the same", s, NONE, "bar", node, node, 1, 1, 1);
        }
        for (double bad : outside(0.125, 1000)) {
            R.refused("3: length is not 0.125 .. 1000", s, NONE, "bar", 0, 1, bad, 1, 1);
        }
        R.refused("3: length is 0", s, NONE, "bar", 0, 1, 0, 1, 1);
        for (double bad : outside(0, 10)) {
            R.refused("3: width is not 0 .. 10", s, NONE, "bar", 0, 1, 1, bad, 1);
        }
        for (double bad : outside(0, 1.0e6)) {
            R.refused("3: strong is not 0 .. 1.0e6", s, NONE, "bar", 0, 1, 1, 1, bad);
        }
        R.refused("3: all of them", s, NONE, "bar", 1, 1, NO_NUMBER, NO_NUMBER, NO_NUMBER);
    }

    private static void loads(State s) {
        for (int bad : noneSuch(s.nodes)) {
            R.refused("4: none such", s, false, "fix", bad);
            R.refused("5: none such", s, false, "floats", bad, 500);
            R.refused("5: none such, and not in range", s, false, "floats", bad, 2.0e5);
            R.refused("14: none such", s, false, "catchAt", bad, 500);
            R.refused("14: none such, and not in range", s, false, "catchAt", bad, -1);
        }
        for (double bad : outside(-1.0e5, 1.0e5)) {
            R.refused("5: newton is not -1.0e5 .. 1.0e5", s, false, "floats", 2, bad);
        }
        for (double bad : outside(0, 1.0e5)) {
            R.refused("14: newton2 is not 0 .. 1.0e5", s, false, "catchAt", 2, bad);
        }
    }

    private static void rows(State s) {
        // The depth 0 is told in the small and the full object, the depth 2 is not: a row that is
        // replaced and one that is new are refused alike.
        double[] depths = {0, 2};
        for (double bad : outside(-1000, 1000)) {
            R.refused("6: depth is not -1000 .. 1000", s, false, "current", bad, 1, 90);
        }
        for (double depth : depths) {
            for (double bad : outside(0, 10)) {
                R.refused("6: speed is not 0 .. 10", s, false, "current", depth, bad, 90);
            }
            for (double bad : outside(0, 315)) {
                R.refused("6: other directions", s, false, "current", depth, 1, bad);
            }
            for (int eighth = 0; eighth < 8; eighth++) {
                double good = 45 * eighth;
                double[] beside = {Math.nextDown(good), Math.nextUp(good), good + 22.5, good + 360};
                for (double bad : beside) {
                    R.refused("6: other directions", s, false, "current", depth, 1, bad);
                }
            }
            R.refused("6: -45 is not 315", s, false, "current", depth, 1, -45);
            R.refused("6: all of them", s, false, "current", depth, -1, 46);
        }
    }

    private static void runs(State s) {
        for (int bad : outsideInts(1, 300)) {
            R.refused("7: rounds is not 1 .. 300", s, NONE, "run", bad);
        }
        R.refused("7: rounds is -300", s, NONE, "run", -300);
        if (s.nodes == 0) {
            R.refused("7: there are no nodes", s, NONE, "run", 1);
            R.refused("7: there are no nodes", s, NONE, "run", 300);
        }
        for (int bad : outsideInts(1, 20)) {
            R.refused("22: lists is not 1 .. 20", s, NONE, "best", bad);
        }
        R.refused("22: lists is -20", s, NONE, "best", -20);
        if (s.nodes == 0) {
            R.refused("22: there are none", s, NONE, "best", 1);
            R.refused("22: there are none", s, NONE, "best", 20);
        }
    }

    private static void questions(State s) {
        for (int bad : noneSuch(s.nodes)) {
            for (int axis = 0; axis < 3; axis++) {
                R.refused("8: none such", s, 0.0, "at", bad, axis);
            }
            R.refused("8: none such, no such axis", s, 0.0, "at", bad, 3);
        }
        for (int bad : outsideInts(0, 2)) {
            R.refused("8: other axes", s, 0.0, "at", 2, bad);
            R.refused("11: other axes", s, 0.0, "drag", bad);
            R.refused("13: other kinds", s, -1.0, "open", bad);
        }
        for (int bad : noneSuch(s.bars)) {
            R.refused("9: none such", s, -1.0, "pull", bad);
            R.refused("12: there is none", s, NONE, "over", bad);
        }
        if (s.nodes == 0) {
            R.refused("10: before any", s, -1.0, "residual");
            for (int axis = 0; axis < 3; axis++) {
                R.refused("11: before any", s, 0.0, "drag", axis);
                R.refused("13: without nodes", s, -1.0, "open", axis);
            }
        }
    }

    private static void panels(State s) {
        for (int bad : outsideInts(1, 400)) {
            R.refused("15: top is not 1 .. 400", s, NONE, "panel", bad, 390, 199);
            R.refused("15: bottom is not 1 .. 400", s, NONE, "panel", 390, bad, 199);
        }
        for (int bad : outsideInts(1, 200)) {
            R.refused("15: deep is not 1 .. 200", s, NONE, "panel", 390, 380, bad);
        }
        R.refused("15: none of them", s, NONE, "panel", 0, 401, 201);
        for (int bad : noneSuch(s.panels)) {
            R.refused("16: no such panel", s, NONE, "cut", bad, 0, 0);
            R.refused("16: no such panel, for more", s, NONE, "cut", bad, 0, 1);
            R.refused("16: nothing such", s, NONE, "cut", bad, -1, 2);
            R.refused("17: none such", s, false, "whole", bad);
            R.refused("18: no such A", s, NONE, "edge", bad, 0);
            R.refused("18: no such B", s, NONE, "edge", 0, bad);
            R.refused("18: no such A and B", s, NONE, "edge", bad, bad);
            R.refused("23: none such, across", s, NONE, "sheet", bad, 0);
            R.refused("23: none such, down", s, NONE, "sheet", bad, 1);
            R.refused("23: none such, no such what", s, NONE, "sheet", bad, 2);
        }
        // The state's panel 1 is 8 deep.
        for (int bad : outsideInts(0, 7)) {
            R.refused("16: no such row", s, NONE, "cut", 1, bad, 0);
            R.refused("16: no such row, for more", s, NONE, "cut", 1, bad, 1);
        }
        for (int bad : outsideInts(0, 1)) {
            R.refused("16: for others", s, NONE, "cut", 1, 0, bad);
            R.refused("23: for others", s, NONE, "sheet", 1, bad);
        }
    }

    private static void water(State s) {
        for (double bad : outside(0, 5)) {
            R.refused("19: share is not 0 .. 5", s, false, "foul", bad);
        }
        for (double bad : outside(0, 30)) {
            R.refused("20: height is not 0 .. 30", s, NONE, "wave", bad, 4, 90);
        }
        for (double bad : outside(1, 60)) {
            R.refused("20: period is not 1 .. 60", s, NONE, "wave", 20, bad, 90);
        }
        R.refused("20: period is -1, which added to 1.0 is 0", s, NONE, "wave", 20, -1, 90);
        for (int bad : outsideInts(0, 100)) {
            R.refused("20: n is not 0 .. 100", s, NONE, "wave", 20, 4, bad);
        }
        R.refused("20: none of them", s, NONE, "wave", 31, 0, -1);
    }

    private static void fullOnes(State s) {
        R.refused("2: there are 30", s, NONE, "node", 1, 2, 3);
        R.refused("2: there are 30, and not in range", s, NONE, "node", 1001, 2, 3);
        R.refused("3: there are 60 bars", s, NONE, "bar", 0, 1, 1, 1, 1);
        R.refused("3: there are 60 bars, and both are the same", s, NONE, "bar", 3, 3, 1, 1, 1);
        double[] otherDepths = {-1000, -1, Math.nextUp(0.0), Math.nextUp(1.25), 2, 12, 1000};
        for (double depth : otherDepths) {
            R.refused("6: there are 10 others", s, false, "current", depth, 1, 90);
        }
        R.refused("6: there are 10 others, and not in range", s, false, "current", 1001, 1, 90);
        R.refused("15: there are 30", s, NONE, "panel", 1, 1, 1);
        R.refused("15: there are 30, and not in range", s, NONE, "panel", 0, 1, 1);
    }
}
