/**
 * Nets and lines in water: nodes and ropes that pull, float and drag, moved round by round until
 * they are in balance; panels of whole meshes cut row by row, laid on sheets.
 */
public final class NetShapes {

    public static final int NONE = -1;

    private static final int MOST_NODES = 30;
    private static final int MOST_BARS = 60;
    private static final int MOST_ROWS = 10;
    private static final int MOST_ROUNDS = 300;
    private static final int MOST_PANELS = 30;
    private static final int MOST_FUELS = 20;

    private static final int AXES = 3;
    private static final int X = 0;
    private static final int Y = 1;
    private static final int Z = 2;

    private static final int FARTHEST = 1000;
    private static final int LONGEST = 1000;
    private static final int WIDEST = 10;
    private static final int STRONGEST = 1000000;
    private static final int GREATEST_LOAD = 100000;
    private static final int FASTEST = 10;
    private static final int FOULEST = 5;
    private static final int HIGHEST_WAVE = 30;
    private static final int LONGEST_PERIOD = 60;
    private static final int GREATEST_WAVE_SHARE = 100;
    private static final int SHEET_WIDTH = 400;
    private static final int DEEPEST_PANEL = 200;

    private static final int DIRECTIONS = 8;
    private static final int DEGREES_A_DIRECTION = 45;
    private static final int ROOT_STEPS = 30;

    private final Nodes nodes;
    private final Bars bars;
    private final Water water;
    private final Balance balance;
    private final Fuels fuels;
    private final Panels panels;

    public NetShapes() {
        nodes = new Nodes();
        bars = new Bars();
        water = new Water();
        balance = new Balance(nodes, bars, water);
        fuels = new Fuels();
        panels = new Panels();
    }

    public int node(double x, double y, double z2) {
        if (nodes.count >= MOST_NODES || !isPlace(x) || !isPlace(y) || !isPlace(z2)) {
            return NONE;
        }
        return nodes.add(x, y, z2);
    }

    public int bar(int a, int b, double length, double width, double strong) {
        if (!nodes.has(a) || !nodes.has(b) || a == b || bars.count >= MOST_BARS) {
            return NONE;
        }
        if (!within(length, 0.125, LONGEST) || !within(width, 0, WIDEST)
                || !within(strong, 0, STRONGEST)) {
            return NONE;
        }
        return bars.add(a, b, length, width, strong);
    }

    public boolean fix(int node) {
        if (!nodes.has(node)) {
            return false;
        }
        nodes.fixed[node] = true;
        return true;
    }

    public boolean floats(int node, double newton) {
        if (!nodes.has(node) || !within(newton, -GREATEST_LOAD, GREATEST_LOAD)) {
            return false;
        }
        nodes.lift[node] = newton;
        return true;
    }

    public boolean current(double depth, double speed, double direction) {
        int eighth = eighthOfTurn(direction);
        if (!isPlace(depth) || !within(speed, 0, FASTEST) || eighth == NONE) {
            return false;
        }
        // Towards y a direction goes as the one a quarter turn before it goes towards x.
        int quarterBefore = (eighth + 6) % DIRECTIONS;
        return water.tell(depth, partTowardsX(speed, eighth), partTowardsX(speed, quarterBefore));
    }

    public int run(int rounds) {
        if (rounds < 1 || rounds > MOST_ROUNDS || nodes.count == 0) {
            return NONE;
        }
        for (int done = 0; done < rounds; done++) {
            if (balance.comesInRound()) {
                fuels.add(size(balance.drags[X]) / (1 + nodes.spread(Y)));
                return done;
            }
        }
        return NONE;
    }

    public double at(int node, int axis) {
        if (!nodes.has(node) || !isAxis(axis)) {
            return 0.0;
        }
        return nodes.places[axis][node];
    }

    public double pull(int bar) {
        return bars.has(bar) ? bars.pulls[bar] : -1.0;
    }

    public double residual() {
        return balance.greatestForce;
    }

    public double drag(int axis) {
        return isAxis(axis) ? balance.drags[axis] : 0.0;
    }

    public int over(int k) {
        return k < 0 ? NONE : bars.overloaded(k);
    }

    public double open(int kind) {
        if (nodes.count == 0 || !isAxis(kind)) {
            return -1.0;
        }
        return nodes.spread(kind);
    }

    public boolean catchAt(int node2, double newton2) {
        if (!nodes.has(node2) || !within(newton2, 0, GREATEST_LOAD)) {
            return false;
        }
        nodes.load[node2] = newton2;
        return true;
    }

    public int panel(int top, int bottom, int deep) {
        if (panels.count >= MOST_PANELS || !isPanelWidth(top) || !isPanelWidth(bottom)
                || deep < 1 || deep > DEEPEST_PANEL) {
            return NONE;
        }
        return panels.add(top, bottom, deep);
    }

    public int cut(int panel, int k, int what) {
        if (!panels.has(panel) || k < 0 || k >= panels.deep[panel]) {
            return NONE;
        }
        switch (what) {
            case 0:
                return panels.meshesAfter(panel, k + 1);
            case 1:
                return panels.meshesAfter(panel, k + 1) - panels.meshesAfter(panel, k);
            default:
                return NONE;
        }
    }

    public boolean whole(int panel2) {
        return panels.has(panel2) && (panels.bottom[panel2] - panels.top[panel2]) % 2 == 0;
    }

    public int edge(int panelA, int panelB) {
        if (!panels.has(panelA) || !panels.has(panelB)) {
            return NONE;
        }
        return Math.min(panels.bottom[panelA], panels.top[panelB]);
    }

    public boolean foul(double share) {
        if (!within(share, 0, FOULEST)) {
            return false;
        }
        water.foulShare = share;
        return true;
    }

    public int wave(double height, double period, int n) {
        if (!within(height, 0, HIGHEST_WAVE) || !within(period, 1, LONGEST_PERIOD)
                || n < 0 || n > GREATEST_WAVE_SHARE) {
            return NONE;
        }
        water.waveShare = height / (period + 1.0) * n / 100;
        return water.count;
    }

    public boolean mirrored() {
        for (int node = 0; node < nodes.count; node++) {
            if (!nodes.hasMirrorImage(node)) {
                return false;
            }
        }
        return true;
    }

    public int best(int lists) {
        if (lists < 1 || lists > MOST_FUELS) {
            return NONE;
        }
        return fuels.leastOfLatest(lists);
    }

    public int sheet(int k, int what) {
        if (!panels.has(k)) {
            return NONE;
        }
        switch (what) {
            case 0:
                return panels.across[k];
            case 1:
                return panels.down[k];
            default:
                return NONE;
        }
    }

    /** False for NaN too, so that none ever comes into the object. */
    private static boolean within(double value, double least, double greatest) {
        return value >= least && value <= greatest;
    }

    private static boolean isPlace(double value) {
        return within(value, -FARTHEST, FARTHEST);
    }

    private static boolean isAxis(int axis) {
        return axis >= 0 && axis < AXES;
    }

    private static boolean isPanelWidth(int meshes) {
        return meshes >= 1 && meshes <= SHEET_WIDTH;
    }

    private static int eighthOfTurn(double direction) {
        for (int eighth = 0; eighth < DIRECTIONS; eighth++) {
            if (direction == DEGREES_A_DIRECTION * eighth) {
                return eighth;
            }
        }
        return NONE;
    }

    private static double partTowardsX(double speed, int eighth) {
        double slanting = speed * 0.7071067811865476;
        switch (eighth) {
            case 0:
                return speed;
            case 1:
            case 7:
                return slanting;
            case 3:
            case 5:
                return 0 - slanting;
            case 4:
                return 0 - speed;
            default:
                return 0.0;
        }
    }

    private static double size(double value) {
        return value < 0 ? -value : value;
    }

    /** The document's ROOT: it need not be the true root, so its thirty steps are kept to. */
    private static double root(double value) {
        if (!(value > 0)) {
            return 0.0;
        }
        double guess = 0.5 * (value + 1);
        for (int step = 0; step < ROOT_STEPS; step++) {
            double next = 0.5 * (guess + value / guess);
            if (next == guess) {
                // All further steps would answer the same again.
                return guess;
            }
            guess = next;
        }
        return guess;
    }

    /** What joins the ropes: places and forces stand by axis, then by node. */
    private static final class Nodes {
        final double[][] places = new double[AXES][MOST_NODES];
        final double[][] forces = new double[AXES][MOST_NODES];
        final double[] lift = new double[MOST_NODES];
        final double[] load = new double[MOST_NODES];
        final boolean[] fixed = new boolean[MOST_NODES];
        int count = 0;

        boolean has(int node) {
            return node >= 0 && node < count;
        }

        int add(double x, double y, double z) {
            int node = count;
            places[X][node] = x;
            places[Y][node] = y;
            places[Z][node] = z;
            count++;
            return node;
        }

        void startForces() {
            for (int node = 0; node < count; node++) {
                forces[X][node] = 0.0;
                forces[Y][node] = 0.0;
                forces[Z][node] = 0.0 + (load[node] - lift[node]);
            }
        }

        double greatestForce() {
            double greatest = 0.0;
            for (int node = 0; node < count; node++) {
                if (fixed[node]) {
                    continue;
                }
                for (int axis = 0; axis < AXES; axis++) {
                    double force = size(forces[axis][node]);
                    greatest = force > greatest ? force : greatest;
                }
            }
            return greatest;
        }

        void giveWay() {
            for (int node = 0; node < count; node++) {
                if (fixed[node]) {
                    continue;
                }
                for (int axis = 0; axis < AXES; axis++) {
                    places[axis][node] += stepFor(forces[axis][node]);
                }
            }
        }

        private static double stepFor(double force) {
            double farthest = 0.25;
            double step = 0.0005 * force;
            if (step > farthest) {
                return farthest;
            }
            return step < -farthest ? -farthest : step;
        }

        /** The greatest less the least place on an axis; there is a node. */
        double spread(int axis) {
            double[] along = places[axis];
            double least = along[0];
            double greatest = along[0];
            for (int node = 1; node < count; node++) {
                least = along[node] < least ? along[node] : least;
                greatest = along[node] > greatest ? along[node] : greatest;
            }
            return greatest - least;
        }

        boolean hasMirrorImage(int node) {
            double opposite = 0 - places[X][node];
            for (int other = 0; other < count; other++) {
                if (places[X][other] == opposite && places[Y][other] == places[Y][node]
                        && places[Z][other] == places[Z][node]) {
                    return true;
                }
            }
            return false;
        }
    }

    /** The ropes, with the pull of each in the latest round. */
    private static final class Bars {
        final int[] from = new int[MOST_BARS];
        final int[] to = new int[MOST_BARS];
        final double[] length = new double[MOST_BARS];
        final double[] width = new double[MOST_BARS];
        final double[] strength = new double[MOST_BARS];
        final double[] pulls = new double[MOST_BARS];
        int count = 0;

        boolean has(int bar) {
            return bar >= 0 && bar < count;
        }

        int add(int a, int b, double natural, double wide, double strong) {
            int bar = count;
            from[bar] = a;
            to[bar] = b;
            length[bar] = natural;
            width[bar] = wide;
            strength[bar] = strong;
            // No round has told its pull yet; below every strength, so it is not overloaded.
            pulls[bar] = -1.0;
            count++;
            return bar;
        }

        int overloaded(int k) {
            int before = 0;
            for (int bar = 0; bar < count; bar++) {
                if (pulls[bar] > strength[bar]) {
                    if (before == k) {
                        return bar;
                    }
                    before++;
                }
            }
            return NONE;
        }
    }

    /** The current rows, the least deep one first, and what makes the water's drag greater. */
    private static final class Water {
        final double[] depths = new double[MOST_ROWS];
        final double[] towardsX = new double[MOST_ROWS];
        final double[] towardsY = new double[MOST_ROWS];
        int count = 0;
        double waveShare = 0.0;
        double foulShare = 0.0;

        boolean tell(double depth, double speedX, double speedY) {
            int row = rowAtOrAbove(depth);
            if (row == NONE || depths[row] != depth) {
                if (count >= MOST_ROWS) {
                    return false;
                }
                row++;
                makeRoomAt(row);
            }
            depths[row] = depth;
            towardsX[row] = speedX;
            towardsY[row] = speedY;
            return true;
        }

        private void makeRoomAt(int row) {
            for (int to = count; to > row; to--) {
                depths[to] = depths[to - 1];
                towardsX[to] = towardsX[to - 1];
                towardsY[to] = towardsY[to - 1];
            }
            count++;
        }

        /** The deepest row that is not below a depth; NONE when all are. */
        int rowAtOrAbove(double depth) {
            int row = NONE;
            for (int next = 0; next < count && depths[next] <= depth; next++) {
                row = next;
            }
            return row;
        }

        /** The speed towards x or y at a depth, for the row at or above that depth. */
        double speedAt(double[] speeds, double depth, int row) {
            return speedOfRows(speeds, depth, row) * (1 + waveShare);
        }

        private double speedOfRows(double[] speeds, double depth, int row) {
            if (count == 0) {
                return 0.0;
            }
            if (row < 0) {
                return speeds[0];
            }
            if (row + 1 >= count) {
                return speeds[count - 1];
            }
            double share = (depth - depths[row]) / (depths[row + 1] - depths[row]);
            return speeds[row] + (speeds[row + 1] - speeds[row]) * share;
        }
    }

    /** Does rounds, and keeps what the latest one told. */
    private static final class Balance {
        final Nodes nodes;
        final Bars bars;
        final Water water;
        final double[] drags = new double[AXES];
        double greatestForce = -1.0;
        private final double[] span = new double[AXES];
        private final double[] acrossFlow = new double[AXES];

        Balance(Nodes nodes, Bars bars, Water water) {
            this.nodes = nodes;
            this.bars = bars;
            this.water = water;
        }

        /** One round: whether it was in balance, and nothing moved. */
        boolean comesInRound() {
            nodes.startForces();
            for (int axis = 0; axis < AXES; axis++) {
                drags[axis] = 0.0;
            }
            for (int bar = 0; bar < bars.count; bar++) {
                double reach = measure(bar);
                tighten(bar, reach);
                if (reach > 0) {
                    wash(bar, reach);
                }
            }
            greatestForce = nodes.greatestForce();
            if (greatestForce < 1.0) {
                return true;
            }
            nodes.giveWay();
            return false;
        }

        /** Sets the span from a bar's first node to its second: how long that is. */
        private double measure(int bar) {
            for (int axis = 0; axis < AXES; axis++) {
                double[] along = nodes.places[axis];
                span[axis] = along[bars.to[bar]] - along[bars.from[bar]];
            }
            return lengthOf(span);
        }

        private static double lengthOf(double[] way) {
            return root(way[X] * way[X] + way[Y] * way[Y] + way[Z] * way[Z]);
        }

        private void tighten(int bar, double reach) {
            double natural = bars.length[bar];
            double pulling = reach > natural ? 2000 * (reach - natural) / natural : 0.0;
            bars.pulls[bar] = pulling;
            if (pulling > 0) {
                double share = pulling / reach;
                for (int axis = 0; axis < AXES; axis++) {
                    nodes.forces[axis][bars.from[bar]] += share * span[axis];
                    nodes.forces[axis][bars.to[bar]] -= share * span[axis];
                }
            }
        }

        private void wash(int bar, double reach) {
            findFlowAcross(bar, reach);
            double q = 128 * bars.width[bar] * (1 + water.foulShare) * bars.length[bar]
                    * lengthOf(acrossFlow);
            for (int axis = 0; axis < AXES; axis++) {
                drags[axis] += 2 * q * acrossFlow[axis];
                nodes.forces[axis][bars.from[bar]] += q * acrossFlow[axis];
                nodes.forces[axis][bars.to[bar]] += q * acrossFlow[axis];
            }
        }

        private void findFlowAcross(int bar, double reach) {
            double[] down = nodes.places[Z];
            double depth = 0.5 * (down[bars.from[bar]] + down[bars.to[bar]]);
            int row = water.rowAtOrAbove(depth);
            double u = water.speedAt(water.towardsX, depth, row);
            double v = water.speedAt(water.towardsY, depth, row);
            double w = (u * span[X] + v * span[Y]) / reach;
            acrossFlow[X] = u - w * span[X] / reach;
            acrossFlow[Y] = v - w * span[Y] / reach;
            acrossFlow[Z] = 0 - w * span[Z] / reach;
        }
    }

    /** The fuel of the latest runs that came into balance; the oldest gives its place up. */
    private static final class Fuels {
        private final double[] kept = new double[MOST_FUELS];
        private int count = 0;
        private int next = 0;

        void add(double fuel) {
            kept[next] = fuel;
            next = (next + 1) % MOST_FUELS;
            count = Math.min(count + 1, MOST_FUELS);
        }

        int leastOfLatest(int lists) {
            int least = NONE;
            for (int back = 0; back < lists && back < count; back++) {
                if (least == NONE || backwards(back) < backwards(least)) {
                    least = back;
                }
            }
            return least;
        }

        private double backwards(int back) {
            return kept[Math.floorMod(next - 1 - back, MOST_FUELS)];
        }
    }

    /** The panels, each with its place on the sheet: later ones never move it. */
    private static final class Panels {
        final int[] top = new int[MOST_PANELS];
        final int[] bottom = new int[MOST_PANELS];
        final int[] deep = new int[MOST_PANELS];
        final int[] across = new int[MOST_PANELS];
        final int[] down = new int[MOST_PANELS];
        int count = 0;
        private int shelfUsed = 0;
        private int shelfStart = 0;
        private int shelfDeep = 0;

        boolean has(int panel) {
            return panel >= 0 && panel < count;
        }

        int add(int topMeshes, int bottomMeshes, int rows) {
            int panel = count;
            top[panel] = topMeshes;
            bottom[panel] = bottomMeshes;
            deep[panel] = rows;
            lay(panel);
            count++;
            return panel;
        }

        private void lay(int panel) {
            int wide = Math.max(top[panel], bottom[panel]);
            if (shelfUsed + wide > SHEET_WIDTH) {
                shelfStart += shelfDeep;
                shelfUsed = 0;
                shelfDeep = 0;
            }
            across[panel] = shelfUsed;
            down[panel] = shelfStart;
            shelfUsed += wide;
            shelfDeep = Math.max(shelfDeep, deep[panel]);
        }

        /** How wide a panel is when so many of its rows are cut; the top for none. */
        int meshesAfter(int panel, int rows) {
            int more = bottom[panel] - top[panel];
            // A panel has one row at least, so there is no division by 0.
            return top[panel] + more * rows / deep[panel];
        }
    }
}
