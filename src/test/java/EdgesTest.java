import java.util.List;

/**
 * The other sentences of promises 1 to 23 that name an edge: what is empty, what is full, what has
 * not been yet, what is equal, and what is kept of the latest when more have come.
 */
public final class EdgesTest {
    private static final Checks C = new Checks();
    private static final int NONE = NetShapes.NONE;

    public static void main(String[] args) {
        newObject();
        newObjectHasNoPanelsAndRuns();
        thirtyNodes();
        sixtyBars();
        fixedFromNowOn();
        liftsAndCatchesAreReplaced();
        rowsOfTheSameDepth();
        tenRows();
        tenOthers();
        roundsBeforeBalance();
        balanceInTheLastRound();
        notOneRoundTooMany();
        noNodes();
        noRoundSinceABarWasMade();
        residualBeforeAny();
        dragBeforeAny();
        dragInTheBarsOrder();
        overStrength();
        overBeforeAny();
        openOfOneNode();
        thirtyPanels();
        sidesAlike();
        lesserEdge();
        foulAndWaveAreReplaced();
        waveTellsRows();
        mirrored();
        bestOfNone();
        bestOfFewer();
        bestOfTheSame();
        bestKeepsTwenty();
        bestCountsBalancedRuns();
        fuelOfThen();
        fiveHundredAndTwelveCalls();
        C.end("EdgesTest");
    }

    private static Tried tried(String sentence) {
        return new Tried(C, sentence);
    }

    private static Tried withNodes(String sentence, int nodes) {
        Tried t = tried(sentence);
        for (int i = 0; i < nodes; i++) {
            t.due(i, "node", i, 2 * i, 3 * i);
        }
        return t;
    }

    /** A fixed bar along y of length 1: a run is in balance at once, drag(0) by the current. */
    private static Tried drifting(String sentence) {
        Tried t = tried(sentence).tell("node", 0, 0, 0).tell("node", 0, 1, 0);
        return t.tell("fix", 0).tell("fix", 1).tell("bar", 0, 1, 1, 1, 1);
    }

    private static Tried runIn(Tried t, double speed) {
        return t.tell("current", 0, speed, 0).due(0, "run", 1);
    }

    private static void newObject() {
        Tried t = tried("1: no nodes, no bars, still water");
        t.due(NONE, "run", 1).due(-1.0, "residual").due(true, "mirrored");
        for (int i = 0; i < 3; i++) {
            t.due(-1.0, "open", i).due(0.0, "drag", i).due(0.0, "at", 0, i);
        }
        t.due(false, "fix", 0).due(false, "floats", 0, 1).due(false, "catchAt", 0, 1);
        t.due(-1.0, "pull", 0).due(NONE, "over", 0).due(0, "wave", 1, 1, 1);
        t.due(NONE, "bar", 0, 1, 1, 1, 1).due(0, "node", 1, 2, 3).due(1, "node", 2, 2, 3);
        t.due(0, "bar", 0, 1, 1, 10, 1).due(0, "run", 1).due(0.0, "residual");
        t.due(0.0, "drag", 0).due(0.0, "drag", 1).due(0.0, "drag", 2);
    }

    private static void newObjectHasNoPanelsAndRuns() {
        Tried t = tried("1: a new object has no panels and no runs");
        t.due(NONE, "cut", 0, 0, 0).due(NONE, "cut", 0, 0, 1).due(false, "whole", 0);
        t.due(NONE, "edge", 0, 0).due(NONE, "sheet", 0, 0).due(NONE, "sheet", 0, 1);
        t.due(NONE, "best", 1).due(NONE, "best", 20).due(0, "panel", 5, 5, 5);
    }

    private static void thirtyNodes() {
        Tried t = withNodes("2: NONE when there are 30", 30);
        t.due(NONE, "node", 0, 0, 0).due(NONE, "node", 7, 7, 7).due(false, "fix", 30);
        t.due(29.0, "open", 0).due(58.0, "open", 1).due(87.0, "open", 2);
        for (int i = 0; i < 30; i++) {
            t.due(1.0 * i, "at", i, 0).due(2.0 * i, "at", i, 1).due(3.0 * i, "at", i, 2);
        }
        t.due(0.0, "at", 30, 2).due(true, "catchAt", 29, 200).due(NONE, "run", 1);
        t.due(87 + 0.0005 * 200, "at", 29, 2).due(84.0, "at", 28, 2);
    }

    private static void sixtyBars() {
        Tried t = withNodes("3: NONE when there are 60 bars", 4);
        for (int node = 0; node < 4; node++) {
            t.tell("fix", node);
        }
        double l = Model.root(14);
        for (int i = 0; i < 60; i++) {
            t.due(i, "bar", i % 3, i % 3 + 1, 1 + i * 0.03125, 1, 1);
        }
        t.due(NONE, "bar", 0, 1, 1, 1, 1).due(NONE, "bar", 3, 2, 5, 0, 0).due(0, "run", 1);
        for (int i = 0; i < 60; i++) {
            double length = 1 + i * 0.03125;
            t.due(2000 * (l - length) / length, "pull", i).due(i, "over", i);
        }
        t.due(-1.0, "pull", 60).due(NONE, "over", 60);
    }

    private static void fixedFromNowOn() {
        Tried t = tried("4: fixed from now on").tell("node", 0, 0, 0).tell("catchAt", 0, 2000);
        t.due(NONE, "run", 2).due(0.5, "at", 0, 2).due(true, "fix", 0).due(0, "run", 2);
        t.due(0.5, "at", 0, 2).due(true, "fix", 0).tell("floats", 0, 9).due(0, "run", 300);
        t.due(0.5, "at", 0, 2);
    }

    private static void liftsAndCatchesAreReplaced() {
        Tried t = tried("5, 14: a new one stands for the old one").tell("node", 0, 0, 0);
        t.tell("floats", 0, 100).tell("floats", 0, 30).tell("run", 1).due(30.0, "residual");
        t.tell("catchAt", 0, 90).tell("catchAt", 0, 50).tell("run", 1).due(20.0, "residual");
        t.tell("catchAt", 0, 0).tell("run", 1).due(30.0, "residual");
        t.tell("floats", 0, 0).due(0, "run", 1).due(0.0, "residual");
    }

    private static void rowsOfTheSameDepth() {
        Tried t = drifting("6: one of the same depth is replaced");
        runIn(t, 1).due(256.0, "drag", 0).due(1, "wave", 0, 1, 0);
        runIn(t, 2).due(1024.0, "drag", 0).due(1, "wave", 0, 1, 0);
        runIn(t, 0).due(0.0, "drag", 0).due(1, "wave", 0, 1, 0);
        t.due(true, "current", 0, 2, 180).due(0, "run", 1).due(-1024.0, "drag", 0);
        t.due(true, "current", -0.0, 1, 0).due(1, "wave", 0, 1, 0).due(0, "run", 1);
        t.due(256.0, "drag", 0);
        t.due(true, "current", Double.MIN_VALUE, 2, 0).due(2, "wave", 0, 1, 0);
        t.due(true, "current", -Double.MIN_VALUE, 3, 0).due(3, "wave", 0, 1, 0);
        t.due(0, "run", 1).due(256.0, "drag", 0);
    }

    private static void tenRows() {
        int[] order = {4, 9, 0, 7, 2, 5, 1, 8, 3, 6};
        Tried t = drifting("6: ten rows");
        for (int i = 0; i < 10; i++) {
            t.due(true, "current", order[i] - 4, 1 + 0.5 * order[i], 0).due(i + 1, "wave", 0, 1, 0);
        }
        t.due(false, "current", 6, 1, 0).due(false, "current", -5, 1, 0);
        t.due(false, "current", 0.5, 1, 0).due(10, "wave", 0, 1, 0);
        t.due(0, "run", 1).due(256.0 * 3 * 3, "drag", 0);
        for (int row = 0; row < 10; row++) {
            Tried u = tried("6: each of ten rows stands, " + row);
            u.tell("node", 0, 0, row).tell("node", 0, 1, row).tell("fix", 0).tell("fix", 1);
            u.tell("bar", 0, 1, 1, 1, 1);
            for (int i : order) {
                u.tell("current", i, 1 + 0.5 * i, 0);
            }
            double speed = 1 + 0.5 * row;
            u.due(0, "run", 1).due(256.0 * Model.root(speed * speed) * speed, "drag", 0);
        }
    }

    private static void tenOthers() {
        for (int row = 0; row < 10; row++) {
            Tried t = tried("6: nine others and one of the same depth, " + row);
            t.tell("node", 0, 0, row).tell("node", 0, 1, row).tell("fix", 0).tell("fix", 1);
            t.tell("bar", 0, 1, 1, 1, 1);
            for (int i = 0; i < 10; i++) {
                t.tell("current", i, 1, 0);
            }
            t.due(false, "current", Math.nextUp((double) row), 2, 0);
            t.due(true, "current", row, 4, 180).due(10, "wave", 0, 1, 0);
            t.due(0, "run", 1).due(-256.0 * 4 * 4, "drag", 0);
        }
    }

    private static void roundsBeforeBalance() {
        // One round draws both together by a quarter each, and then the bar is slack.
        Tried t = tried("7: how many were done before that one");
        t.tell("node", 0, 0, 0).tell("node", 1, 0, 0).tell("bar", 0, 1, 0.5, 0, 1);
        t.due(1, "run", 2).due(0.5, "open", 0).due(0, "run", 1).due(0, "run", 300);
        t = tried("7: NONE when none is, nodes moved in each");
        t.tell("node", 0, 0, 0).tell("node", 1, 0, 0).tell("bar", 0, 1, 0.5, 0, 1);
        t.due(NONE, "run", 1).due(0.5, "open", 0).due(2000.0, "residual").due(0, "run", 1);
    }

    /** A node that hangs on a rope, sinking until it is tight; longer ropes take more rounds. */
    private static Tried sinking(String sentence, double length) {
        Tried t = tried(sentence).tell("node", 0, 0, 0).tell("node", 0, 0, 0).tell("fix", 0);
        return t.tell("bar", 0, 1, length, 0, 1).tell("catchAt", 1, 100);
    }

    private static int sinkingRounds(double length, int most) {
        Model m = new Model();
        m.node(0, 0, 0);
        m.node(0, 0, 0);
        m.nodes.get(0).fixed = true;
        m.nodes.get(1).load = 100;
        m.bar(0, 1, length, 0, 1);
        return m.run(most);
    }

    private static void balanceInTheLastRound() {
        boolean seen = false;
        for (double length = 12; length < 12.5; length += 0.03125) {
            int rounds = sinkingRounds(length, 400);
            int due = rounds < 300 ? rounds : NONE;
            sinking("7: balance after " + rounds, length).due(due, "run", 300);
            if (rounds == 299) {
                seen = true;
                sinking("7: one too few", length).due(NONE, "run", 299).due(0, "run", 1);
                sinking("7: in two parts", length).due(NONE, "run", 150).due(149, "run", 150);
            }
            if (rounds == 300) {
                sinking("7: the 301st would be", length).due(NONE, "run", 300).due(0, "run", 1);
            }
        }
        C.due("7: a run comes into balance in its 300th round", seen, true);
    }

    private static void notOneRoundTooMany() {
        int[] rounds = {1, 2, 3, 299, 300};
        for (int some : rounds) {
            Tried t = tried("7: so many at most").tell("node", 0, 0, 0).tell("floats", 0, 4096);
            t.due(NONE, "run", some).due(-0.25 * some, "at", 0, 2);
        }
    }

    private static void noNodes() {
        Tried t = tried("7: NONE when there are no nodes").tell("current", 0, 1, 0);
        t.due(NONE, "run", 1).due(NONE, "run", 300).due(-1.0, "residual").due(NONE, "best", 1);
        t.due(0, "node", 0, 0, 0).due(-1.0, "residual").due(0, "run", 1).due(0, "best", 20);
    }

    private static void noRoundSinceABarWasMade() {
        Tried t = tried("9: no round since it was made").tell("node", 0, 0, 0).tell("node", 1, 0, 0);
        t.tell("fix", 0).tell("fix", 1).due(0, "run", 1);
        t.due(0, "bar", 0, 1, 0.5, 1, 0).due(-1.0, "pull", 0).due(NONE, "run", 301);
        t.due(-1.0, "pull", 0).due(0, "run", 1).due(2000.0, "pull", 0);
        t.due(1, "bar", 0, 1, 2, 1, 0).due(-1.0, "pull", 1).due(2000.0, "pull", 0);
        t.due(0, "run", 1).due(0.0, "pull", 1).due(2000.0, "pull", 0).due(-1.0, "pull", 2);
        t = tried("9: the latest round, not the one before");
        t.tell("node", 0, 0, 0).tell("node", 1, 0, 0).tell("bar", 0, 1, 0.5, 1, 0);
        t.due(NONE, "run", 1).due(2000.0, "pull", 0).due(0, "run", 1).due(0.0, "pull", 0);
    }

    private static void residualBeforeAny() {
        Tried t = tried("10: -1.0 before any").tell("node", 0, 0, 0).tell("floats", 0, 5);
        t.due(-1.0, "residual").due(NONE, "run", 0).due(-1.0, "residual").due(NONE, "run", 1);
        t.due(5.0, "residual").tell("floats", 0, 6).due(5.0, "residual").due(NONE, "run", 301);
        t.due(5.0, "residual").due(NONE, "run", 1).due(6.0, "residual").tell("floats", 0, 0.5);
        t.due(0, "run", 1).due(0.5, "residual");
    }

    private static void dragBeforeAny() {
        Tried t = drifting("11: 0.0 before any").tell("current", 0, 1, 0);
        t.due(0.0, "drag", 0).due(NONE, "run", 0).due(0.0, "drag", 0).due(0, "run", 1);
        t.due(256.0, "drag", 0).tell("current", 0, 2, 0).due(256.0, "drag", 0);
        t.due(0, "run", 1).due(1024.0, "drag", 0).due(0, "run", 1).due(1024.0, "drag", 0);
        t = tried("11: no bars").tell("node", 0, 0, 0).tell("current", 0, 9, 0).due(0, "run", 1);
        t.due(0.0, "drag", 0).due(0.0, "drag", 1).due(0.0, "drag", 2);
    }

    private static void dragInTheBarsOrder() {
        Tried t = tried("11: the sum in the bars' order");
        for (int depth = 0; depth < 2; depth++) {
            t.tell("node", 0, 0, depth).tell("node", 0, 1, depth);
            t.tell("fix", 2 * depth).tell("fix", 2 * depth + 1);
        }
        t.tell("current", 0, 1, 0).tell("current", 1, 1, 180);
        double thin = 1.0e-17;
        t.tell("bar", 0, 1, 1, 1, 1).tell("bar", 0, 1, 1, thin, 1).tell("bar", 2, 3, 1, 1, 1);
        // The thin bar's drag is lost beside the wide one's, which then takes the last one away.
        t.due(0, "run", 1).due(0.0, "drag", 0);
        t.tell("bar", 0, 1, 1, thin, 1).due(0, "run", 1).due(2 * (128 * thin), "drag", 0);
    }

    private static void overStrength() {
        Tried t = tried("12: above its strength").tell("node", 0, 0, 0).tell("node", 1, 0, 0);
        t.tell("fix", 0).tell("fix", 1);
        t.tell("bar", 0, 1, 0.5, 0, 2000).tell("bar", 0, 1, 0.5, 0, Math.nextDown(2000.0));
        t.tell("bar", 0, 1, 0.5, 0, Math.nextUp(2000.0)).tell("bar", 0, 1, 2, 0, 0);
        t.tell("bar", 0, 1, 1, 0, 0).tell("bar", 1, 0, 0.5, 0, 0).due(0, "run", 1);
        t.due(1, "over", 0).due(5, "over", 1).due(NONE, "over", 2).due(NONE, "over", -1);
        t.due(NONE, "over", Integer.MAX_VALUE).due(NONE, "over", Integer.MIN_VALUE);
    }

    private static void overBeforeAny() {
        Tried t = tried("12: NONE before any round").tell("node", 0, 0, 0).tell("node", 1, 0, 0);
        t.tell("bar", 0, 1, 0.5, 0, 0).due(NONE, "over", 0).due(NONE, "run", 1).due(0, "over", 0);
        t.tell("bar", 0, 1, 0.25, 0, 0).due(0, "over", 0).due(NONE, "over", 1);
        t.due(NONE, "run", 1).due(1, "over", 0).due(NONE, "over", 1);
    }

    private static void openOfOneNode() {
        Tried t = tried("13: -1.0 without nodes");
        t.due(-1.0, "open", 0).due(-1.0, "open", 1).due(-1.0, "open", 2);
        t.tell("node", -5, 6, 7).due(0.0, "open", 0).due(0.0, "open", 1).due(0.0, "open", 2);
        t.due(-1.0, "open", 3).due(-1.0, "open", -1);
        t.tell("node", 1000, -1000, 1000).tell("node", -1000, 1000, -1000);
        t.due(2000.0, "open", 0).due(2000.0, "open", 1).due(2000.0, "open", 2);
        t = tried("13: the greatest and the least, first or last");
        t.tell("node", -9, 9, 0).tell("node", -4, 4, -6).tell("node", -1, 1, 6);
        t.due(8.0, "open", 0).due(8.0, "open", 1).due(12.0, "open", 2);
    }

    private static void thirtyPanels() {
        Tried t = tried("15: NONE when there are 30");
        for (int i = 0; i < 30; i++) {
            t.due(i, "panel", 130 + i, 100, 1 + i);
        }
        t.due(NONE, "panel", 1, 1, 1).due(NONE, "panel", 400, 400, 200);
        int across = 0;
        int down = 0;
        int deepest = 0;
        for (int i = 0; i < 30; i++) {
            if (across + 130 + i > 400) {
                across = 0;
                down += deepest;
            }
            t.due(across, "sheet", i, 0).due(down, "sheet", i, 1).due(100, "cut", i, i, 0);
            across += 130 + i;
            deepest = 1 + i;
        }
        t.due(NONE, "sheet", 30, 0).due(NONE, "sheet", 30, 1).due(NONE, "cut", 30, 0, 0);
        t.due(false, "whole", 30).due(NONE, "edge", 29, 30).due(NONE, "edge", 30, 29);
        t.due(100, "edge", 29, 29);
    }

    private static void sidesAlike() {
        int[][] widths = {{1, 1}, {1, 2}, {2, 1}, {1, 3}, {3, 1}, {1, 400}, {400, 1}, {2, 400},
            {400, 2}, {400, 400}};
        Tried t = tried("17: differ by an even number");
        for (int i = 0; i < widths.length; i++) {
            t.tell("panel", widths[i][0], widths[i][1], 3);
            t.due((widths[i][0] + widths[i][1]) % 2 == 0, "whole", i);
        }
        t.due(false, "whole", widths.length).due(false, "whole", -1);
    }

    private static void lesserEdge() {
        Tried t = tried("18: the lesser number of both");
        t.tell("panel", 400, 1, 1).tell("panel", 1, 400, 1).tell("panel", 7, 8, 1);
        t.due(1, "edge", 0, 1).due(1, "edge", 0, 2).due(400, "edge", 1, 0).due(7, "edge", 1, 2);
        t.due(8, "edge", 2, 0).due(1, "edge", 2, 1);
    }

    private static void foulAndWaveAreReplaced() {
        Tried t = runIn(drifting("19, 20: a new one stands for the old one"), 1);
        t.tell("foul", 5).tell("foul", 1).due(0, "run", 1).due(512.0, "drag", 0);
        t.tell("wave", 30, 1, 100).tell("wave", 4, 1, 50).due(0, "run", 1).due(2048.0, "drag", 0);
        t.tell("foul", 0).due(0, "run", 1).due(1024.0, "drag", 0);
        t.tell("wave", 30, 1, 0).due(0, "run", 1).due(256.0, "drag", 0);
        t.tell("wave", 4, 1, 50).tell("wave", 0, 1, 100).due(0, "run", 1).due(256.0, "drag", 0);
    }

    private static void waveTellsRows() {
        Tried t = tried("20: how many current rows there are");
        for (int rows = 0; rows <= 10; rows++) {
            t.due(rows, "wave", rows, 1 + rows, 10 * rows);
            t.due(rows < 10, "current", 10 - rows, 1, 0);
        }
        t.due(10, "wave", 30, 60, 100).due(true, "current", 5, 2, 90).due(10, "wave", 1, 1, 1);
    }

    private static void mirroredPair(boolean due, double... second) {
        Tried t = tried("21: 0 less its own x, with the same y and z").tell("node", 3, 5, 7);
        t.due(false, "mirrored").tell("node", second[0], second[1], second[2]);
        t.due(due, "mirrored");
    }

    private static void mirrored() {
        tried("21: no nodes").due(true, "mirrored");
        tried("21: in the middle").tell("node", 0, 5, 7).due(true, "mirrored");
        tried("21: beside the middle").tell("node", Double.MIN_VALUE, 5, 7).due(false, "mirrored");
        mirroredPair(true, -3, 5, 7);
        mirroredPair(false, 3, 5, 7);
        mirroredPair(false, 0, 5, 7);
        mirroredPair(false, Math.nextUp(-3.0), 5, 7);
        mirroredPair(false, -3, Math.nextUp(5.0), 7);
        mirroredPair(false, -3, -5, 7);
        mirroredPair(false, -3, 5, Math.nextDown(7.0));
        mirroredPair(false, -3, 5, -7);
        mirroredPair(false, -3, 7, 5);
        Tried t = tried("21: for each node, of 30");
        for (int i = 0; i < 15; i++) {
            t.tell("node", i + 1, i, 2).due(false, "mirrored").tell("node", -i - 1, i, 2);
            t.due(true, "mirrored");
        }
        withNodes("21: 30 nodes, and none but the first has one", 30).due(false, "mirrored");
        t = tried("21: one may stand for two").tell("node", 1, 0, 0).tell("node", 1, 0, 0);
        t.due(false, "mirrored").tell("node", -1, 0, 0).due(true, "mirrored");
    }

    private static void bestOfNone() {
        Tried t = tried("22: NONE when there are none").due(NONE, "best", 1).due(NONE, "best", 20);
        t.tell("node", 0, 0, 0).tell("catchAt", 0, 50).due(NONE, "run", 5);
        t.due(NONE, "best", 1).due(NONE, "best", 20).tell("fix", 0).due(0, "run", 5);
        t.due(0, "best", 1).due(0, "best", 20).due(NONE, "best", 0).due(NONE, "best", 21);
    }

    private static void bestOfFewer() {
        Tried t = drifting("22: fewer than lists");
        double[] speeds = {2, 1, 3, 4};
        int[] best = {0, 0, 1, 2};
        for (int i = 0; i < 4; i++) {
            runIn(t, speeds[i]).due(best[i], "best", 20).due(best[i], "best", i + 1);
            t.due(best[i], "best", i + 2).due(0, "best", 1);
        }
        t.due(1, "best", 2).due(2, "best", 3);
    }

    private static void bestOfTheSame() {
        Tried t = drifting("22: of the same the later one");
        runIn(runIn(runIn(t, 2), 1), 2).due(1, "best", 3).due(0, "best", 1).due(1, "best", 2);
        runIn(t, 1).due(0, "best", 4).due(0, "best", 1);
        t.tell("current", 0, 1, 180).due(0, "run", 1).due(0, "best", 5);
        runIn(t, 3).due(1, "best", 6).due(0, "best", 1).due(1, "best", 2);
        runIn(t, 0).due(0, "best", 7);
        t.tell("current", 0, 5, 90).due(0, "run", 1).due(0, "best", 8);
    }

    private static void bestKeepsTwenty() {
        Tried t = runIn(drifting("22: of at most 20, the latest one being 0"), 0.5);
        for (int later = 1; later < 20; later++) {
            runIn(t, 9 - 0.25 * later).due(later, "best", 20).due(0, "best", later);
        }
        t.due(0, "best", 19);
        runIn(t, 9).due(1, "best", 20);
        for (int later = 1; later < 70; later++) {
            runIn(t, 0.125 * later).due(Math.min(later, 20) - 1, "best", Math.min(later, 20));
            t.due(0, "best", 1);
        }
    }

    private static void bestCountsBalancedRuns() {
        Tried t = runIn(runIn(drifting("22: run()s that came into balance"), 1), 2);
        t.tell("node", 5, 0.5, 5).tell("catchAt", 2, 400);
        for (int i = 0; i < 25; i++) {
            t.due(NONE, "run", 1 + i).due(1, "best", 2).due(0, "best", 1);
        }
        t.due(NONE, "run", 0).due(NONE, "run", 301).due(1, "best", 20);
        t.tell("fix", 2);
        runIn(t, 3).due(2, "best", 20).due(1, "best", 2);
    }

    private static void fuelOfThen() {
        // 256 over (1 + 1) and 576 over (1 + 3.5) are the same; with a lesser opening the second
        // run's fuel is more, and with a greater one it is less.
        double[] opening = {3.5 - 1.0e-9, 3.5, 3.5 + 1.0e-9};
        int[] best = {1, 0, 0};
        for (int i = 0; i < 3; i++) {
            Tried t = runIn(drifting("22: drag(0) over (1 + open(1))"), 1).due(256.0, "drag", 0);
            t.tell("node", 0, opening[i], 0).tell("fix", 2);
            runIn(t, 1.5).due(576.0, "drag", 0).due(opening[i], "open", 1).due(best[i], "best", 2);
            t.tell("node", 0, -1000, 0).due(best[i], "best", 2);
        }
        Tried t = runIn(drifting("22: then, not now"), 1).tell("node", 0, 900, 0).tell("fix", 2);
        runIn(t, 8).due(0, "best", 2).tell("foul", 5).tell("wave", 30, 1, 100).due(0, "best", 2);
        t = runIn(drifting("22: open(1), not open(0) or open(2)"), 1);
        t.tell("node", 900, 0, 900).tell("fix", 2);
        runIn(t, 1.125).due(1, "best", 2);
    }

    /** An object answers for 512 calls: the last ones as the first. */
    private static void fiveHundredAndTwelveCalls() {
        Tried t = drifting("an object is used for at most 512 calls");
        while (t.calls() + 7 <= Tried.MOST_CALLS) {
            double speed = t.calls() % 9;
            t.tell("current", 0, speed, 0).due(0, "run", 1).due(256 * speed * speed, "drag", 0);
        }
        runIn(t, 0.5).due(0, "best", 20);
        while (t.calls() < Tried.MOST_CALLS) {
            t.due(64.0, "drag", 0);
        }
        C.due("all 512 calls are made", t.calls(), 512);
        List<State> states = State.all();
        C.due("states are within 512 calls", states.get(2).made.size() < Tried.MOST_CALLS, true);
    }
}
