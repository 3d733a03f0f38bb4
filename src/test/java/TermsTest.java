import java.util.List;

/** The sentences of "Terms" that name an edge: ROOT, depths, rounds, rows of panels, the sheet. */
public final class TermsTest {
    private static final Checks C = new Checks();
    private static final int NONE = NetShapes.NONE;

    public static void main(String[] args) {
        rootOfNothing();
        rootOfAlmostNothing();
        rootStepsThirtyTimes();
        zeroAtFirst();
        noRows();
        oneRow();
        aboveTheFirstRow();
        atAndBetweenRows();
        belowTheLastRow();
        rowsThatAreNear();
        bothTimesWave();
        longerThanNatural();
        pullAboveNothing();
        noLengthNoDrag();
        residualOfAllFixed();
        residualOfAnyAxis();
        belowOne();
        noFartherThanAQuarter();
        balanceMovesNothing();
        rowsRoundTowardsNothing();
        sheetIsFourHundredWide();
        widerOfTopAndBottom();
        belowTheDeepest();
        C.end("TermsTest");
    }

    private static Tried tried(String sentence) {
        return new Tried(C, sentence);
    }

    /**
     * Two fixed level bars of length 1 at a depth. The one along x feels the current towards y
     * alone, the one along y that towards x; each has a drag of its current times its size.
     */
    private static Tried cross(String sentence, double depth) {
        Tried t = tried(sentence);
        t.tell("node", 0, 0, depth).tell("node", 1, 0, depth).tell("node", 0, 1, depth);
        t.tell("fix", 0).tell("fix", 1).tell("fix", 2);
        return t.tell("bar", 0, 1, 1, 1.0 / 256, 1).tell("bar", 0, 2, 1, 1.0 / 256, 1);
    }

    private static void flows(Tried t, double u, double v) {
        t.due(0, "run", 1);
        t.due(2 * (0.5 * Model.root(u * u)) * u, "drag", 0);
        t.due(2 * (0.5 * Model.root(v * v)) * v, "drag", 1);
        t.due(0.0, "drag", 2);
    }

    private static Tried shortBar(String sentence, double length) {
        Tried t = tried(sentence);
        t.tell("node", 0, 0, 0).tell("node", length, 0, 0).tell("fix", 0).tell("fix", 1);
        return t.tell("bar", 0, 1, 1, 1.0 / 256, 1).tell("current", 0, 2, 90);
    }

    private static void rootOfNothing() {
        shortBar("ROOT is 0 for 0", 0).due(0, "run", 1).due(0.0, "drag", 1).due(0.0, "pull", 0);
        // The square of 1.0e-162 is too small for a double: it is 0.
        shortBar("ROOT is 0 for what has become 0", 1.0e-162).due(0, "run", 1)
            .due(0.0, "drag", 1).due(0.0, "pull", 0);
    }

    private static void rootOfAlmostNothing() {
        // The square of 2.0e-162 is the least double above 0, so there is a length.
        shortBar("ROOT is not 0 above 0", 2.0e-162).due(0, "run", 1).due(4.0, "drag", 1);
        shortBar("ROOT is not 0 above 0", -2.0e-162).due(0, "run", 1).due(4.0, "drag", 1);
    }

    private static void rootStepsThirtyTimes() {
        // From 0.5 on each step halves: thirty of them end at 2 to the -31st.
        double root = 1.0 / (1L << 31);
        Tried t = cross("ROOT takes thirty steps", 0);
        t.tell("current", 0, 1.0e-150, 90).due(0, "run", 1).due(root * 1.0e-150, "drag", 1);
        t = tried("ROOT of the greatest length");
        t.tell("node", -1000, -1000, -1000).tell("node", 1000, 1000, 1000);
        t.tell("bar", 0, 1, 1000, 0, 1).tell("run", 1);
        t.due(2000 * (Model.root(1.2e7) - 1000) / 1000, "pull", 0);
    }

    private static void zeroAtFirst() {
        Tried t = tried("LIFT and CATCH are 0 at first");
        t.tell("node", 0, 0, 0).due(0, "run", 1).due(0.0, "residual").due(0.0, "at", 0, 2);
        t = tried("LIFT is 0 at first").tell("node", 0, 0, 0);
        t.tell("catchAt", 0, 8).due(NONE, "run", 1).due(8.0, "residual");
        t = tried("CATCH is 0 at first").tell("node", 0, 0, 0);
        t.tell("floats", 0, 8).due(NONE, "run", 1).due(8.0, "residual");
        t = cross("WAVE is 0 at first", 0).tell("current", 0, 3, 0).tell("foul", 0);
        t.due(0, "run", 1).due(9.0, "drag", 0);
        t = cross("FOUL is 0 at first", 0).tell("current", 0, 3, 90).tell("wave", 0, 1, 0);
        t.due(0, "run", 1).due(9.0, "drag", 1);
    }

    private static void noRows() {
        double[] depths = {-1000, 0, 1000};
        for (double depth : depths) {
            flows(cross("at a depth it is 0 without rows", depth), 0, 0);
            flows(cross("no rows, foul and with waves", depth).tell("foul", 5)
                .tell("wave", 30, 1, 100), 0, 0);
        }
    }

    private static void oneRow() {
        double[] depths = {-1000, Math.nextDown(5.0), 5, Math.nextUp(5.0), 1000};
        for (double depth : depths) {
            Tried t = cross("one row, at " + depth, depth).tell("current", 5, 3, 225);
            flows(t, 0 - 3 * 0.7071067811865476, 0 - 3 * 0.7071067811865476);
        }
    }

    /** Rows of one speed each way, told in no order; their depths are not in even steps. */
    private static final double[][] ROWS = {{-3, 2, 0}, {1, 0, 3}, {2.5, -0.75, 0}, {7, 0, -4}};

    private static Tried rows(String sentence, double depth) {
        Tried t = cross(sentence + ", at " + depth, depth);
        t.tell("current", 2.5, 0.75, 180).tell("current", -3, 2, 0);
        return t.tell("current", 7, 4, 270).tell("current", 1, 3, 90);
    }

    private static void aboveTheFirstRow() {
        double[] depths = {-1000, -4, Math.nextDown(-3.0)};
        for (double depth : depths) {
            flows(rows("that of the first row above it", depth), 2, 0);
        }
    }

    private static void belowTheLastRow() {
        double[] depths = {7, Math.nextUp(7.0), 8, 1000};
        for (double depth : depths) {
            flows(rows("that of the last one below it", depth), 0, -4);
        }
    }

    private static double between(double s0, double s1, double z, double d0, double d1) {
        return s0 + (s1 - s0) * ((z - d0) / (d1 - d0));
    }

    private static void atAndBetweenRows() {
        for (int row = 0; row < 3; row++) {
            double[] from = ROWS[row];
            double[] to = ROWS[row + 1];
            flows(rows("at a row", from[0]), from[1], from[2]);
            double[] depths = {Math.nextUp(from[0]), from[0] + 0.1, 0.5 * (from[0] + to[0]),
                to[0] - 0.1, Math.nextDown(to[0])};
            for (double z : depths) {
                flows(rows("of the row before and the next one", z),
                    between(from[1], to[1], z, from[0], to[0]),
                    between(from[2], to[2], z, from[0], to[0]));
            }
        }
    }

    private static void rowsThatAreNear() {
        double next = Math.nextUp(1.0);
        double[] depths = {Math.nextDown(1.0), 1, next, Math.nextUp(next)};
        double[] towardsX = {2, 2, -3, -3};
        for (int i = 0; i < 4; i++) {
            Tried t = cross("rows of depths that are next to one another", depths[i]);
            t.due(true, "current", next, 3, 180).due(true, "current", 1, 2, 0);
            flows(t, towardsX[i], 0);
            t.due(2, "wave", 0, 1, 0);
        }
        Tried t = cross("rows less than any step from 0", 0);
        t.due(true, "current", Double.MIN_VALUE, 3, 90).due(true, "current", 0, 2, 0);
        t.due(true, "current", -Double.MIN_VALUE, 1, 90).due(3, "wave", 0, 1, 0);
        flows(t, 2, 0);
    }

    private static void bothTimesWave() {
        Tried t = cross("both times 1 + WAVE", 1).tell("current", 0, 2, 0).tell("current", 2, 3, 90);
        t.due(2, "wave", 6, 2, 25);
        flows(t, (2 + (0 - 2.0) * 0.5) * 1.5, (0 + (3 - 0.0) * 0.5) * 1.5);
    }

    private static Tried pulled(String sentence, double length) {
        Tried t = tried(sentence);
        t.tell("node", 0, 0, 0).tell("node", 1, 0, 0).tell("fix", 0).tell("fix", 1);
        return t.tell("bar", 0, 1, length, 0, 0).tell("run", 1);
    }

    private static void longerThanNatural() {
        double less = Math.nextDown(1.0);
        pulled("PULL if L is above the length", less).due(2000 * (1 - less) / less, "pull", 0)
            .due(0, "over", 0);
        pulled("PULL is 0 if L is the length", 1).due(0.0, "pull", 0).due(NONE, "over", 0);
        pulled("PULL is 0 if L is below the length", Math.nextUp(1.0)).due(0.0, "pull", 0);
        pulled("PULL is not below 0", 1000).due(0.0, "pull", 0).due(NONE, "over", 0);
    }

    private static void pullAboveNothing() {
        double[] lengths = {1, Math.nextUp(1.0), 2, 1000};
        for (double length : lengths) {
            Tried t = tried("no force without a PULL, length " + length);
            t.tell("node", 0, 0, 0).tell("node", 1, 0, 0).tell("bar", 0, 1, length, 1, 1);
            t.due(0, "run", 1).due(0.0, "residual").due(0.0, "at", 0, 0).due(1.0, "at", 1, 0);
        }
        double less = Math.nextDown(1.0);
        Tried t = tried("with PULL just above 0 there is a force");
        t.tell("node", 0, 0, 0).tell("node", 1, 0, 0).tell("bar", 0, 1, less, 1, 1);
        t.due(0, "run", 1).due(2000 * (1 - less) / less, "residual");
        t = tried("with PULL above 0 both are drawn together");
        t.tell("node", 0, 0, 0).tell("node", 1, 0, 0).tell("bar", 0, 1, 0.5, 1, 1);
        t.due(NONE, "run", 1).due(2000.0, "pull", 0).due(2000.0, "residual");
        t.due(0.25, "at", 0, 0).due(0.75, "at", 1, 0).due(0, "run", 1).due(0.0, "pull", 0);
    }

    private static void noLengthNoDrag() {
        Tried t = cross("L of 0: no drag", 4).tell("node", 9, 9, 4).tell("node", 9, 9, 4);
        t.tell("bar", 3, 4, 1, 10, 0).tell("current", 0, 10, 0);
        flows(t, 10, 0);
        t.due(0.0, "residual").due(0.0, "pull", 2).due(9.0, "at", 3, 0).due(9.0, "at", 4, 0);
    }

    private static void residualOfAllFixed() {
        Tried t = tried("the RESIDUAL is 0 when all are fixed");
        t.tell("node", 0, 0, 0).tell("node", 9, 9, 9).tell("bar", 0, 1, 1, 1, 1);
        t.tell("catchAt", 0, 1.0e5).tell("floats", 1, 1.0e5).tell("current", 0, 10, 45);
        t.tell("fix", 1).due(NONE, "run", 1);
        t.tell("fix", 0).due(0, "run", 1).due(0.0, "residual");
    }

    /** One free end of a level bar: its force is 128 times the width, on the axis of the current. */
    private static Tried pushed(String sentence, double width, double direction) {
        Tried t = tried(sentence + ", towards " + direction);
        boolean towardsX = direction == 0 || direction == 180;
        t.tell("node", 0, 0, 0).tell("node", towardsX ? 0 : 1, towardsX ? 1 : 0, 0).tell("fix", 0);
        return t.tell("bar", 0, 1, 1, width, 1).tell("current", 0, 1, direction);
    }

    private static Tried loaded(String sentence, double load, boolean down) {
        Tried t = tried(sentence + (down ? ", down" : ", up")).tell("node", 0, 0, 0);
        return down ? t.tell("catchAt", 0, load) : t.tell("floats", 0, load);
    }

    private static void residualOfAnyAxis() {
        for (int direction = 0; direction < 360; direction += 90) {
            pushed("the greatest size of a force", 0.25, direction).due(NONE, "run", 1)
                .due(32.0, "residual");
            Tried t = pushed("the greatest size of more than one", 0.25, direction);
            t.tell("catchAt", 1, 31).tell("node", 9, 9, 9).tell("floats", 2, 31.5);
            t.tell("catchAt", 0, 1000).due(NONE, "run", 1).due(32.0, "residual");
            t.tell("floats", 2, 32.5).due(NONE, "run", 1).due(32.5, "residual");
        }
        loaded("the greatest size of a force", 32, true).due(NONE, "run", 1).due(32.0, "residual");
        loaded("the greatest size of a force", 32, false).due(NONE, "run", 1).due(32.0, "residual");
    }

    private static void belowOne() {
        double width = 1.0 / 128;
        double less = Math.nextDown(1.0);
        for (int direction = 0; direction < 360; direction += 90) {
            pushed("1.0 is not in balance", width, direction).due(NONE, "run", 1)
                .due(1.0, "residual");
            pushed("below 1.0 is in balance", Math.nextDown(width), direction).due(0, "run", 1)
                .due(128 * Math.nextDown(width), "residual");
        }
        boolean[] ways = {true, false};
        for (boolean down : ways) {
            loaded("1.0 is not in balance", 1.0, down).due(NONE, "run", 1).due(1.0, "residual")
                .due(down ? 0.0005 : -0.0005, "at", 0, 2);
            loaded("below 1.0 is in balance", less, down).due(0, "run", 1).due(less, "residual")
                .due(0.0, "at", 0, 2);
        }
    }

    private static void noFartherThanAQuarter() {
        double[] forces = {499, 500, 501, 1000};
        double[] steps = {0.0005 * 499, 0.25, 0.25, 0.25};
        for (int i = 0; i < forces.length; i++) {
            for (int direction = 0; direction < 360; direction += 90) {
                int axis = direction % 180 == 0 ? 0 : 1;
                double step = direction < 180 ? steps[i] : -steps[i];
                Tried t = pushed("by no more than 0.25", forces[i] / 128, direction);
                t.due(NONE, "run", 1).due(forces[i], "residual").due(step, "at", 1, axis);
                t.due(1.0, "at", 1, 1 - axis).due(0.0, "at", 1, 2).due(0.0, "at", 0, axis);
            }
            loaded("by no more than 0.25", forces[i], true).due(NONE, "run", 1)
                .due(steps[i], "at", 0, 2);
            loaded("by no more than 0.25", forces[i], false).due(NONE, "run", 1)
                .due(-steps[i], "at", 0, 2);
        }
    }

    private static void balanceMovesNothing() {
        Tried t = loaded("a round in balance moves nothing", 0.875, true);
        t.due(0, "run", 300).due(0, "run", 300).due(0.875, "residual").due(0.0, "at", 0, 2);
    }

    private static void cuts(int top, int bottom, int... meshes) {
        Tried t = tried("rounded towards 0").tell("panel", top, bottom, meshes.length);
        int before = top;
        for (int k = 0; k < meshes.length; k++) {
            t.due(meshes[k], "cut", 0, k, 0).due(meshes[k] - before, "cut", 0, k, 1);
            before = meshes[k];
        }
    }

    private static void rowsRoundTowardsNothing() {
        cuts(10, 7, 10, 9, 9, 8, 7);
        cuts(7, 10, 7, 8, 8, 9, 10);
        cuts(5, 4, 5, 5, 4);
        cuts(4, 5, 4, 4, 5);
        cuts(6, 6, 6, 6, 6);
        cuts(1, 400, 400);
        cuts(400, 1, 1);
        cuts(1, 400, 200, 400);
        cuts(400, 1, 201, 1);
    }

    private static void lies(Tried t, int panel, int across, int down) {
        t.due(across, "sheet", panel, 0).due(down, "sheet", panel, 1);
    }

    private static void sheetIsFourHundredWide() {
        Tried t = tried("beside the one before if that fits: 400 do");
        t.tell("panel", 399, 1, 5).tell("panel", 1, 1, 6).tell("panel", 1, 1, 7);
        lies(t, 0, 0, 0);
        lies(t, 1, 399, 0);
        lies(t, 2, 0, 6);
        t = tried("beside the one before if that fits: 401 do not");
        t.tell("panel", 399, 1, 5).tell("panel", 2, 2, 6).tell("panel", 398, 1, 7);
        lies(t, 1, 0, 5);
        lies(t, 2, 2, 5);
        t = tried("one as wide as the sheet");
        t.tell("panel", 400, 400, 200).tell("panel", 400, 1, 1).tell("panel", 1, 400, 1);
        lies(t, 0, 0, 0);
        lies(t, 1, 0, 200);
        lies(t, 2, 0, 201);
    }

    private static void widerOfTopAndBottom() {
        Tried t = tried("as wide as the wider one of top and bottom");
        t.tell("panel", 100, 30, 5).tell("panel", 40, 120, 5).tell("panel", 50, 50, 5);
        t.tell("panel", 10, 130, 5).tell("panel", 1, 1, 5);
        lies(t, 1, 100, 0);
        lies(t, 2, 220, 0);
        lies(t, 3, 270, 0);
        lies(t, 4, 0, 5);
    }

    private static void belowTheDeepest() {
        List<int[]> orders = List.of(new int[] {9, 4, 2}, new int[] {4, 9, 2}, new int[] {2, 4, 9});
        for (int[] deep : orders) {
            Tried t = tried("below the deepest one of the shelf");
            for (int rows : deep) {
                t.tell("panel", 100, 100, rows);
            }
            t.tell("panel", 150, 150, 3).tell("panel", 300, 1, 1).tell("panel", 100, 1, 8);
            lies(t, 3, 0, 9);
            lies(t, 4, 0, 12);
            lies(t, 5, 300, 12);
            t.tell("panel", 1, 1, 1);
            lies(t, 6, 0, 20);
        }
    }
}
