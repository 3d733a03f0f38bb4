/** Promises 15 to 18 and 23: panels, their rows and edges, and where they lie on the sheet. */
public final class PanelsTest {
    private static final Checks C = new Checks();
    private static final int NONE = NetShapes.NONE;
    private static final int[] FAR = {Integer.MIN_VALUE, -1, Integer.MAX_VALUE};

    public static void main(String[] args) {
        panels();
        rows();
        everyRow();
        sides();
        edges();
        shelves();
        fullSheet();
        C.end("PanelsTest");
    }

    private static void panels() {
        NetShapes x = new NetShapes();
        int[] bad = {Integer.MIN_VALUE, -1, 0, 401, Integer.MAX_VALUE};
        for (int value : bad) {
            C.due("15: top " + value, x.panel(value, 1, 1), NONE);
            C.due("15: bottom " + value, x.panel(1, value, 1), NONE);
            C.due("15: deep " + value, x.panel(1, 1, value), NONE);
        }
        C.due("15: deep 201", x.panel(1, 1, 201), NONE);
        C.due("15: refused ones change nothing", x.cut(0, 0, 0), NONE);
        C.due("15: least", x.panel(1, 1, 1), 0);
        C.due("15: greatest", x.panel(400, 400, 200), 1);
        for (int i = 2; i < 30; i++) {
            C.due("15: number " + i, x.panel(i, i, i), i);
        }
        C.due("15: the 31st", x.panel(1, 1, 1), NONE);
        C.due("15: the last one stands", x.cut(29, 28, 0), 29);
        C.due("15: none more", x.cut(30, 0, 0), NONE);
    }

    private static void rows() {
        NetShapes x = new NetShapes();
        x.panel(10, 3, 4);
        int[] meshes = {9, 7, 5, 3};
        int[] more = {-1, -2, -2, -2};
        for (int k = 0; k < 4; k++) {
            C.due("16: meshes " + k, x.cut(0, k, 0), meshes[k]);
            C.due("16: more " + k, x.cut(0, k, 1), more[k]);
        }
        x.panel(3, 5, 3);
        int[] growing = {3, 4, 5};
        int[] grown = {0, 1, 1};
        for (int k = 0; k < 3; k++) {
            C.due("16: growing " + k, x.cut(1, k, 0), growing[k]);
            C.due("16: grown " + k, x.cut(1, k, 1), grown[k]);
        }
        x.panel(400, 1, 1);
        C.due("16: one row", x.cut(2, 0, 0), 1);
        C.due("16: one row, less", x.cut(2, 0, 1), -399);
        C.due("16: row past the end", x.cut(0, 4, 0), NONE);
        C.due("16: more, past the end", x.cut(0, 4, 1), NONE);
        C.due("16: what 2", x.cut(0, 0, 2), NONE);
        for (int i : FAR) {
            C.due("16: panel " + i, x.cut(i, 0, 0), NONE);
            C.due("16: row " + i, x.cut(0, i, 0), NONE);
            C.due("16: more at row " + i, x.cut(0, i, 1), NONE);
            C.due("16: what " + i, x.cut(0, 0, i), NONE);
        }
        C.due("16: panel 3", x.cut(3, 0, 0), NONE);
    }

    private static void everyRow() {
        int[][] shapes = {{400, 1, 200}, {1, 400, 200}, {57, 56, 13}, {56, 57, 13}, {9, 9, 5}};
        for (int[] shape : shapes) {
            NetShapes x = new NetShapes();
            x.panel(shape[0], shape[1], shape[2]);
            long before = shape[0];
            for (int k = 0; k < shape[2]; k++) {
                long size = Math.abs((long) (shape[1] - shape[0])) * (k + 1) / shape[2];
                long meshes = shape[1] < shape[0] ? shape[0] - size : shape[0] + size;
                C.due("16: every row " + k, x.cut(0, k, 0), meshes);
                C.due("16: every difference " + k, x.cut(0, k, 1), meshes - before);
                before = meshes;
            }
            C.due("16: the last row is the bottom", before, shape[1]);
        }
    }

    private static void sides() {
        NetShapes x = new NetShapes();
        x.panel(10, 4, 1);
        x.panel(4, 10, 1);
        x.panel(5, 4, 1);
        x.panel(4, 5, 1);
        x.panel(7, 7, 1);
        x.panel(10, 8, 1);
        x.panel(10, 7, 1);
        boolean[] alike = {true, true, false, false, true, true, false};
        for (int i = 0; i < alike.length; i++) {
            C.due("17: " + i, x.whole(i), alike[i]);
        }
        C.due("17: none such", x.whole(7), false);
        for (int i : FAR) {
            C.due("17: " + i, x.whole(i), false);
        }
    }

    private static void edges() {
        NetShapes x = new NetShapes();
        x.panel(10, 4, 1);
        x.panel(6, 30, 1);
        C.due("18: bottom is less", x.edge(0, 1), 4);
        C.due("18: top is less", x.edge(1, 0), 10);
        C.due("18: a panel to itself", x.edge(1, 1), 6);
        C.due("18: no such B", x.edge(0, 2), NONE);
        C.due("18: no such A", x.edge(2, 0), NONE);
        for (int i : FAR) {
            C.due("18: A " + i, x.edge(i, 0), NONE);
            C.due("18: B " + i, x.edge(0, i), NONE);
        }
    }

    private static void place(NetShapes x, int k, int across, int down) {
        C.due("23: across " + k, x.sheet(k, 0), across);
        C.due("23: down " + k, x.sheet(k, 1), down);
    }

    private static void shelves() {
        NetShapes x = new NetShapes();
        x.panel(100, 150, 50);
        x.panel(250, 20, 10);
        x.panel(1, 1, 7);
        x.panel(399, 2, 9);
        x.panel(1, 1, 3);
        x.panel(2, 400, 1);
        place(x, 0, 0, 0);
        place(x, 1, 150, 0);
        place(x, 2, 0, 50);
        place(x, 3, 1, 50);
        place(x, 4, 0, 59);
        place(x, 5, 0, 62);
        C.due("23: none such", x.sheet(6, 0), NONE);
        C.due("23: what 2", x.sheet(0, 2), NONE);
        for (int i : FAR) {
            C.due("23: panel " + i, x.sheet(i, 0), NONE);
            C.due("23: what " + i, x.sheet(0, i), NONE);
        }
        x.panel(0, 0, 0);
        x.panel(400, 400, 4);
        place(x, 6, 0, 63);
        place(x, 2, 0, 50);
    }

    private static void fullSheet() {
        NetShapes x = new NetShapes();
        for (int i = 0; i < 30; i++) {
            x.panel(400, 400, 200);
        }
        for (int i = 0; i < 30; i++) {
            place(x, i, 0, 200 * i);
        }
    }
}
