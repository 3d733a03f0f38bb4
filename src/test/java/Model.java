import java.util.ArrayList;
import java.util.List;
import java.util.TreeMap;

/**
 * The document's lines once more, held in another way (objects and maps, every axis written out),
 * so that a slip in the class does not stand here too. It takes good arguments only.
 */
final class Model {
    static final class Node {
        double x, y, z, lift, load, fx, fy, fz;
        boolean fixed;
    }

    static final class Bar {
        Node a, b;
        double length, width, strong, pull = -1.0;
    }

    final List<Node> nodes = new ArrayList<>();
    final List<Bar> bars = new ArrayList<>();
    final TreeMap<Double, double[]> rows = new TreeMap<>();
    final List<Double> fuels = new ArrayList<>();
    double wave = 0, foul = 0, residual = -1.0, dragX = 0, dragY = 0, dragZ = 0;

    static double root(double v) {
        if (v <= 0) {
            return 0;
        }
        double g = 0.5 * (v + 1);
        for (int i = 1; i <= 30; i++) {
            g = 0.5 * (g + v / g);
        }
        return g;
    }

    void node(double x, double y, double z) {
        Node node = new Node();
        node.x = x;
        node.y = y;
        node.z = z;
        nodes.add(node);
    }

    void bar(int a, int b, double length, double width, double strong) {
        Bar bar = new Bar();
        bar.a = nodes.get(a);
        bar.b = nodes.get(b);
        bar.length = length;
        bar.width = width;
        bar.strong = strong;
        bars.add(bar);
    }

    void current(double depth, double speed, int direction) {
        double h = 0.7071067811865476;
        double[] xs = {speed, speed * h, 0, 0 - speed * h, 0 - speed, 0 - speed * h, 0, speed * h};
        double[] ys = {0, speed * h, speed, speed * h, 0, 0 - speed * h, 0 - speed, 0 - speed * h};
        rows.put(depth + 0.0, new double[] {xs[direction / 45], ys[direction / 45]});
    }

    private double speed(double z, int part) {
        if (rows.isEmpty()) {
            return 0 * (1 + wave);
        }
        if (z < rows.firstKey()) {
            return rows.firstEntry().getValue()[part] * (1 + wave);
        }
        double d0 = rows.floorKey(z + 0.0);
        double s0 = rows.get(d0)[part];
        if (rows.higherKey(d0) == null) {
            return s0 * (1 + wave);
        }
        double d1 = rows.higherKey(d0);
        double s1 = rows.get(d1)[part];
        return (s0 + (s1 - s0) * ((z - d0) / (d1 - d0))) * (1 + wave);
    }

    private void forcesOf(Bar bar) {
        double dx = bar.b.x - bar.a.x;
        double dy = bar.b.y - bar.a.y;
        double dz = bar.b.z - bar.a.z;
        double l = root(dx * dx + dy * dy + dz * dz);
        bar.pull = 0;
        if (l > bar.length) {
            bar.pull = 2000 * (l - bar.length) / bar.length;
            double p = bar.pull / l;
            bar.a.fx += p * dx;
            bar.a.fy += p * dy;
            bar.a.fz += p * dz;
            bar.b.fx -= p * dx;
            bar.b.fy -= p * dy;
            bar.b.fz -= p * dz;
        }
        if (l > 0) {
            double u = speed(0.5 * (bar.a.z + bar.b.z), 0);
            double v = speed(0.5 * (bar.a.z + bar.b.z), 1);
            double w = (u * dx + v * dy) / l;
            double nx = u - w * dx / l;
            double ny = v - w * dy / l;
            double nz = 0 - w * dz / l;
            double s = root(nx * nx + ny * ny + nz * nz);
            double q = 128 * bar.width * (1 + foul) * bar.length * s;
            dragX += 2 * q * nx;
            dragY += 2 * q * ny;
            dragZ += 2 * q * nz;
            for (Node end : List.of(bar.a, bar.b)) {
                end.fx += q * nx;
                end.fy += q * ny;
                end.fz += q * nz;
            }
        }
    }

    private static double step(double force) {
        return Math.max(-0.25, Math.min(0.25, 0.0005 * force));
    }

    private boolean round() {
        dragX = 0;
        dragY = 0;
        dragZ = 0;
        residual = 0;
        for (Node node : nodes) {
            node.fx = 0;
            node.fy = 0;
            node.fz = node.load - node.lift;
        }
        for (Bar bar : bars) {
            forcesOf(bar);
        }
        for (Node node : nodes) {
            if (!node.fixed) {
                double greatest = Math.max(Math.abs(node.fx), Math.abs(node.fy));
                residual = Math.max(residual, Math.max(greatest, Math.abs(node.fz)));
            }
        }
        if (residual < 1.0) {
            return true;
        }
        for (Node node : nodes) {
            if (!node.fixed) {
                node.x += step(node.fx);
                node.y += step(node.fy);
                node.z += step(node.fz);
            }
        }
        return false;
    }

    int run(int rounds) {
        if (nodes.isEmpty()) {
            return -1;
        }
        for (int done = 0; done < rounds; done++) {
            if (round()) {
                fuels.add(0, Math.abs(dragX) / (1 + open(1)));
                return done;
            }
        }
        return -1;
    }

    double at(int node, int axis) {
        Node n = nodes.get(node);
        return axis == 0 ? n.x : axis == 1 ? n.y : n.z;
    }

    double open(int axis) {
        double least = Double.POSITIVE_INFINITY;
        double greatest = Double.NEGATIVE_INFINITY;
        for (int i = 0; i < nodes.size(); i++) {
            least = Math.min(least, at(i, axis));
            greatest = Math.max(greatest, at(i, axis));
        }
        return nodes.isEmpty() ? -1.0 : greatest - least;
    }

    int over(int k) {
        List<Integer> found = new ArrayList<>();
        for (int i = 0; i < bars.size(); i++) {
            if (bars.get(i).pull > bars.get(i).strong) {
                found.add(i);
            }
        }
        return k < found.size() ? found.get(k) : -1;
    }

    boolean mirrored() {
        for (Node n : nodes) {
            boolean found = false;
            for (Node m : nodes) {
                found |= m.x == 0 - n.x && m.y == n.y && m.z == n.z;
            }
            if (!found) {
                return false;
            }
        }
        return true;
    }

    int best(int lists) {
        List<Double> latest = fuels.subList(0, Math.min(lists, fuels.size()));
        double least = latest.stream().mapToDouble(Double::doubleValue).min().orElse(0);
        return latest.indexOf(least);
    }
}
