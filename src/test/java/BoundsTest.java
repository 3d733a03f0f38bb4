import java.util.List;

/**
 * Every range that the document names, promises 2 to 23: its ends and the numbers just inside them
 * are taken and do what they should; the numbers just outside are refused and do not.
 */
public final class BoundsTest {
    private static final Checks C = new Checks();
    private static final int NONE = NetShapes.NONE;

    /** What is seen of an object when a number has been taken by it. */
    private interface Seen {
        void of(Tried tried, double value);
    }

    private interface Asked {
        Call with(double value);
    }

    private interface SeenWhole {
        void of(Tried tried, int value);
    }

    private interface AskedWhole {
        Call with(int value);
    }

    public static void main(String[] args) {
        nodePlaces();
        barEnds();
        barLength();
        barWidth();
        barStrength();
        lifts();
        catches();
        rowDepths();
        rowSpeeds();
        rowDirections();
        runRounds();
        axes();
        panelSizes();
        panelRows();
        fouling();
        waveHeight();
        wavePeriod();
        waveNumber();
        bestLists();
        C.end("BoundsTest");
    }

    private static Tried tried(String sentence, List<Call> made) {
        return new Tried(C, sentence, made);
    }

    /** Tries a range of doubles, each number on an object of its own. */
    private static void range(String sentence, List<Call> made, double[] ends, Object[] answers,
            Asked asked, Seen seen) {
        double[] good = {ends[0], Math.nextUp(ends[0]), 0.5 * (ends[0] + ends[1]),
            Math.nextDown(ends[1]), ends[1]};
        for (double value : good) {
            Tried tried = tried(sentence, made);
            tried.due(answers[0], asked.with(value));
            seen.of(tried, value);
        }
        double[] bad = {Math.nextDown(ends[0]), Math.nextUp(ends[1])};
        for (double value : bad) {
            tried(sentence, made).due(answers[1], asked.with(value));
        }
    }

    private static void wholeRange(String sentence, List<Call> made, int[] ends, Object[] answers,
            AskedWhole asked, SeenWhole seen) {
        int[] good = {ends[0], ends[0] + 1, (ends[0] + ends[1]) / 2, ends[1] - 1, ends[1]};
        for (int value : good) {
            Tried tried = tried(sentence, made);
            tried.due(answers[0], asked.with(value));
            seen.of(tried, value);
        }
        int[] bad = {ends[0] - 1, ends[1] + 1};
        for (int value : bad) {
            tried(sentence, made).due(answers[1], asked.with(value));
        }
    }

    private static double[] ends(double least, double greatest) {
        return new double[] {least, greatest};
    }

    private static int[] wholeEnds(int least, int greatest) {
        return new int[] {least, greatest};
    }

    private static Object[] answers(Object taken, Object refused) {
        return new Object[] {taken, refused};
    }

    /** Two free nodes, 4 apart and level. */
    private static List<Call> pair() {
        return List.of(Call.of("node", 0, 0, 0), Call.of("node", 4, 0, 0));
    }

    /** A fixed level bar along x, of length 1, whose drag(1) is the square of the speed over it. */
    private static List<Call> level() {
        return List.of(Call.of("node", 0, 0, 0), Call.of("node", 1, 0, 0), Call.of("fix", 0),
            Call.of("fix", 1), Call.of("bar", 0, 1, 1, 1.0 / 256, 1));
    }

    private static List<Call> levelInCurrent() {
        return List.of(Call.of("node", 0, 0, 0), Call.of("node", 1, 0, 0), Call.of("fix", 0),
            Call.of("fix", 1), Call.of("bar", 0, 1, 1, 1.0 / 256, 1), Call.of("current", 0, 1, 90));
    }

    private static void nodePlaces() {
        range("2: x is -1000 .. 1000", List.of(), ends(-1000, 1000), answers(0, NONE),
            v -> Call.of("node", v, 1, 2), (t, v) -> t.due(v, "at", 0, 0));
        range("2: y is -1000 .. 1000", List.of(), ends(-1000, 1000), answers(0, NONE),
            v -> Call.of("node", 1, v, 2), (t, v) -> t.due(v, "at", 0, 1));
        range("2: z2 is -1000 .. 1000", List.of(), ends(-1000, 1000), answers(0, NONE),
            v -> Call.of("node", 1, 2, v), (t, v) -> t.due(v, "at", 0, 2));
    }

    private static void barEnds() {
        Tried all = tried("3: a and b are nodes", State.small().made);
        int bars = 6;
        for (int a = -1; a <= 5; a++) {
            for (int b = -1; b <= 5; b++) {
                boolean good = a != b && a >= 0 && a <= 4 && b >= 0 && b <= 4;
                all.due(good ? bars : NONE, "bar", a, b, 1, 1, 1);
                bars += good ? 1 : 0;
            }
        }
        Tried t = tried("3: two bars may join the same nodes, either way", pair());
        t.due(0, "bar", 0, 1, 1, 1, 1).due(1, "bar", 0, 1, 1, 1, 1).due(2, "bar", 1, 0, 1, 1, 1);
        t = tried("3: the nodes, not their places, are the same", List.of());
        t.due(0, "node", 1, 1, 1).due(1, "node", 1, 1, 1);
        t.due(0, "bar", 0, 1, 1, 1, 1).due(NONE, "bar", 1, 1, 1, 1, 1);
    }

    private static void barLength() {
        range("3: length is 0.125 .. 1000", pair(), ends(0.125, 1000), answers(0, NONE),
            v -> Call.of("bar", 0, 1, v, 1, 1), (t, v) -> {
                double l = Model.root(16);
                t.tell("run", 1).due(l > v ? 2000 * (l - v) / v : 0.0, "pull", 0);
            });
    }

    private static void barWidth() {
        range("3: width is 0 .. 10", pair(), ends(0, 10), answers(0, NONE),
            v -> Call.of("bar", 0, 1, 4, v, 1), (t, v) -> {
                t.tell("current", 0, 1, 90).tell("run", 1);
                t.due(2 * (128 * v * 4), "drag", 1);
            });
    }

    private static void barStrength() {
        List<Call> far = List.of(Call.of("node", 0, 0, 0), Call.of("node", 1000, 0, 0),
            Call.of("fix", 0), Call.of("fix", 1));
        double l = Model.root(1.0e6);
        double pull = 2000 * (l - 0.125) / 0.125;
        range("3: strong is 0 .. 1.0e6", far, ends(0, 1.0e6), answers(0, NONE),
            v -> Call.of("bar", 0, 1, 0.125, 0, v), (t, v) ->
                t.due(0, "run", 1).due(pull, "pull", 0).due(0, "over", 0).due(NONE, "over", 1));
        range("3: strong is 0 .. 1.0e6, slack", far, ends(0, 1.0e6), answers(0, NONE),
            v -> Call.of("bar", 0, 1, 1000, 0, v), (t, v) ->
                t.due(0, "run", 1).due(0.0, "pull", 0).due(NONE, "over", 0));
    }

    private static void lifts() {
        range("5: newton is -1.0e5 .. 1.0e5", pair(), ends(-1.0e5, 1.0e5), answers(true, false),
            v -> Call.of("floats", 1, v), (t, v) -> {
                t.due(v == 0 ? 0 : NONE, "run", 1).due(Math.abs(v), "residual");
                t.due(v > 0 ? -0.25 : v < 0 ? 0.25 : 0.0, "at", 1, 2).due(0.0, "at", 0, 2);
            });
        wholeRange("4, 5, 14: a node that there is", State.small().made, wholeEnds(0, 4),
            answers(true, false), n -> Call.of("floats", n, 7), (t, n) ->
                t.due(true, "catchAt", n, 7).due(true, "fix", n));
        wholeRange("14: a node that there is", State.small().made, wholeEnds(0, 4),
            answers(true, false), n -> Call.of("catchAt", n, 7), (t, n) -> { });
        wholeRange("4: a node that there is", pair(), wholeEnds(0, 1),
            answers(true, false), n -> Call.of("fix", n), (t, n) -> {
                t.tell("catchAt", 0, 100).tell("catchAt", 1, 100).due(NONE, "run", 1);
                t.due(0.0, "at", n, 2).due(0.0005 * 100, "at", 1 - n, 2);
            });
    }

    private static void catches() {
        range("14: newton2 is 0 .. 1.0e5", pair(), ends(0, 1.0e5), answers(true, false),
            v -> Call.of("catchAt", 1, v), (t, v) -> {
                t.due(v < 1 ? 0 : NONE, "run", 1).due(v, "residual");
                t.due(v < 1 ? 0.0 : 0.25, "at", 1, 2).due(0.0, "at", 0, 2);
            });
    }

    private static void rowDepths() {
        range("6: depth is -1000 .. 1000", level(), ends(-1000, 1000), answers(true, false),
            v -> Call.of("current", v, 2, 90), (t, v) ->
                t.due(0, "run", 1).due(4.0, "drag", 1).due(1, "wave", 0, 1, 0));
    }

    private static void rowSpeeds() {
        range("6: speed is 0 .. 10", level(), ends(0, 10), answers(true, false),
            v -> Call.of("current", 0, v, 90), (t, v) ->
                t.due(0, "run", 1).due(Model.root(v * v) * v, "drag", 1).due(1, "wave", 0, 1, 0));
    }

    private static void rowDirections() {
        double h = 2 * 0.7071067811865476;
        double[] towardsY = {0, h, 2, h, 0, 0 - h, -2, 0 - h};
        for (int i = 0; i < 8; i++) {
            double direction = 45 * i;
            double v = towardsY[i];
            Tried t = tried("6: direction " + direction, level());
            t.due(false, "current", 0, 2, Math.nextDown(direction));
            t.due(false, "current", 0, 2, Math.nextUp(direction));
            t.due(0, "wave", 0, 1, 0);
            t.due(true, "current", 0, 2, direction);
            t.due(0, "run", 1).due(Model.root(v * v) * v, "drag", 1).due(1, "wave", 0, 1, 0);
        }
        tried("6: a whole turn is another direction", level()).due(false, "current", 0, 2, 360);
    }

    private static void runRounds() {
        List<Call> sinking = List.of(Call.of("node", 0, 0, 0), Call.of("catchAt", 0, 2048));
        wholeRange("7: rounds is 1 .. 300", sinking, wholeEnds(1, 300), answers(NONE, NONE),
            n -> Call.of("run", n), (t, n) -> t.due(0.25 * n, "at", 0, 2).due(2048.0, "residual"));
        int[] bad = {0, 301};
        for (int n : bad) {
            tried("7: rounds is not 1 .. 300", sinking).due(NONE, "run", n)
                .due(0.0, "at", 0, 2).due(-1.0, "residual");
        }
        List<Call> still = List.of(Call.of("node", 0, 0, 0));
        wholeRange("7: rounds is 1 .. 300, in balance", still, wholeEnds(1, 300),
            answers(0, NONE), n -> Call.of("run", n), (t, n) -> t.due(0.0, "residual"));
    }

    private static void axes() {
        double[] place = {2.5, 3.5, 4.5};
        double[] spread = {1.5, 0.25, 0.75};
        List<Call> made = List.of(Call.of("node", 2.5, 3.5, 4.5), Call.of("node", 1, 3.75, 3.75));
        for (int axis = 0; axis < 3; axis++) {
            Tried t = tried("8, 13: axes 0 .. 2", made);
            t.due(place[axis], "at", 0, axis).due(spread[axis], "open", axis);
        }
        Tried t = tried("8, 11, 13: axes are not -1 or 3", made);
        t.tell("bar", 0, 1, 1, 1, 1).tell("current", 0, 1, 45).tell("run", 1);
        t.due(0.0, "at", 0, -1).due(0.0, "at", 0, 3).due(0.0, "at", -1, 0).due(0.0, "at", 2, 0);
        t.due(-1.0, "open", -1).due(-1.0, "open", 3).due(0.0, "drag", -1).due(0.0, "drag", 3);
        for (int axis = 0; axis < 3; axis++) {
            C.due("11: drag " + axis + " is not 0", t.number("drag", axis) != 0, true);
        }
    }

    private static void panelSizes() {
        wholeRange("15: top is 1 .. 400", List.of(), wholeEnds(1, 400), answers(0, NONE),
            n -> Call.of("panel", n, 7, 2), (t, n) -> {
                t.due(n + (7 - n) / 2, "cut", 0, 0, 0).due(7, "cut", 0, 1, 0);
                t.due((7 - n) % 2 == 0, "whole", 0).due(Math.min(7, n), "edge", 0, 0);
                t.due(1, "panel", 400 - Math.max(n, 7) + 1, 1, 1).due(0, "sheet", 1, 0);
            });
        wholeRange("15: bottom is 1 .. 400", List.of(), wholeEnds(1, 400), answers(0, NONE),
            n -> Call.of("panel", 7, n, 2), (t, n) -> {
                t.due(7 + (n - 7) / 2, "cut", 0, 0, 0).due(n, "cut", 0, 1, 0);
                t.due((n - 7) % 2 == 0, "whole", 0).due(Math.min(7, n), "edge", 0, 0);
                t.due(1, "panel", 400 - Math.max(n, 7) + 1, 1, 1).due(0, "sheet", 1, 0);
            });
        wholeRange("15: deep is 1 .. 200", List.of(), wholeEnds(1, 200), answers(0, NONE),
            n -> Call.of("panel", 400, 2, n), (t, n) -> {
                t.due(2, "cut", 0, n - 1, 0).due(NONE, "cut", 0, n, 0);
                t.due(1, "panel", 1, 1, 1).due(n, "sheet", 1, 1);
            });
    }

    private static void panelRows() {
        List<Call> made = List.of(Call.of("panel", 9, 9, 3), Call.of("panel", 20, 30, 10));
        int[] deep = {3, 10};
        for (int panel = 0; panel < 2; panel++) {
            Tried t = tried("16: rows 0 .. deep - 1 of panel " + panel, made);
            for (int what = 0; what < 2; what++) {
                int first = panel == 0 ? 9 - 9 * what : 21 - 20 * what;
                int last = panel == 0 ? 9 - 9 * what : 30 - 29 * what;
                t.due(NONE, "cut", panel, -1, what).due(first, "cut", panel, 0, what);
                t.due(last, "cut", panel, deep[panel] - 1, what);
                t.due(NONE, "cut", panel, deep[panel], what);
                t.due(NONE, "cut", panel, Integer.MAX_VALUE, what);
                t.due(NONE, "cut", panel, Integer.MIN_VALUE, what);
            }
            t.due(NONE, "cut", panel, 0, -1).due(NONE, "cut", panel, 0, 2);
            t.due(NONE, "sheet", panel, -1).due(NONE, "sheet", panel, 2);
        }
        Tried t = tried("16, 17, 18, 23: panels 0 and 1, not -1 and 2", made);
        int[] bad = {-1, 2};
        for (int none : bad) {
            t.due(NONE, "cut", none, 0, 0).due(false, "whole", none).due(NONE, "edge", none, 1);
            t.due(NONE, "edge", 1, none).due(NONE, "sheet", none, 0).due(NONE, "sheet", none, 1);
        }
        t.due(9, "edge", 0, 1).due(9, "edge", 1, 0).due(0, "sheet", 0, 0).due(9, "sheet", 1, 0);
    }

    private static void fouling() {
        range("19: share is 0 .. 5", levelInCurrent(), ends(0, 5), answers(true, false),
            v -> Call.of("foul", v), (t, v) ->
                t.due(0, "run", 1).due(2 * (128 * (1.0 / 256) * (1 + v)), "drag", 1));
    }

    private static void flowOfWave(Tried t, double share) {
        double v = 1 * (1 + share);
        t.due(0, "run", 1).due(2 * (128 * (1.0 / 256) * Model.root(v * v)) * v, "drag", 1);
    }

    private static void waveHeight() {
        range("20: height is 0 .. 30", levelInCurrent(), ends(0, 30), answers(1, NONE),
            v -> Call.of("wave", v, 3, 70), (t, v) -> flowOfWave(t, v / (3 + 1.0) * 70 / 100));
    }

    private static void wavePeriod() {
        range("20: period is 1 .. 60", levelInCurrent(), ends(1, 60), answers(1, NONE),
            v -> Call.of("wave", 7, v, 70), (t, v) -> flowOfWave(t, 7 / (v + 1.0) * 70 / 100));
    }

    private static void waveNumber() {
        wholeRange("20: n is 0 .. 100", levelInCurrent(), wholeEnds(0, 100), answers(1, NONE),
            n -> Call.of("wave", 7, 3, n), (t, n) -> flowOfWave(t, 7 / (3 + 1.0) * n / 100));
    }

    private static void bestLists() {
        Tried t = tried("22: lists is 1 .. 20", List.of(Call.of("node", 0, 0, 0),
            Call.of("node", 0, 1, 0), Call.of("fix", 0), Call.of("fix", 1),
            Call.of("bar", 0, 1, 1, 1, 1)));
        for (int run = 0; run < 25; run++) {
            t.tell("current", 0, 0.25 * run, 0).due(0, "run", 1);
        }
        t.due(NONE, "best", 0).due(0, "best", 1).due(1, "best", 2).due(18, "best", 19);
        t.due(19, "best", 20).due(NONE, "best", 21);
    }
}
