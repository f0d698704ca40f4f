/**
 * "METRICS are 0 .. 60000, and FAR (65535); a sum above 60000 is FAR."
 *
 * Twelve nodes in a line reach no farther than 11000. So three of them hand a way to 0 on to each
 * other though its end is long gone: the one that loses it is cut off and rebooted before its word
 * of that is heard, and the metric climbs by each handing on.
 */
public final class MetricTest {
    private final BabelMesh mesh = new BabelMesh();
    private int before = 0;
    private int holder = 1;
    private int fresh = 2;

    public static void main(String[] args) {
        leastMetric();
        greatestSum();
        sumAboveTheGreatest();
        greatestIsTold();
        costClimbsAboveTheGreatest();
        farOfALostWay();
        Check.end("MetricTest");
    }

    /** A net in which the holder has a way to 0 of that metric, 2000 or more, in some 300 calls. */
    private MetricTest(int metric) {
        mesh.link(0, 1, 1000);
        mesh.deliver(0);
        int reached = 1000;
        while (reached < metric) {
            int cost = Math.min(1000, metric - reached);
            handOn(cost);
            reached += cost;
        }
        Check.same("climbed to", mesh.way(holder, 0, 2), metric);
    }

    private void handOn(int cost) {
        tellFresh(cost);
        mesh.link(before, holder, 0);
        if (before != 0) {
            mesh.reboot(before);
        }
        int next = before == 0 ? 3 : before;
        before = holder;
        holder = fresh;
        fresh = next;
    }

    /** A link between holder and fresh one, over which only the telling of 0 is handed over. */
    private int tellFresh(int cost) {
        int row = mesh.total(0);
        mesh.link(holder, fresh, cost);
        return mesh.deliver(holder < fresh ? row : row + 1);
    }

    private static void leastMetric() {
        BabelMesh mesh = new BabelMesh();
        mesh.link(4, 5, 1);
        mesh.run(500);
        Check.same("0, of itself", mesh.way(4, 4, 2), 0);
        Check.same("0, told", mesh.told(5, 4, 4, 1), 0);
        Check.same("1, the nearest", Check.way(mesh, 5, 4), "[4, 0, 1, 0, 1]");
    }

    private static void greatestSum() {
        MetricTest net = new MetricTest(59999);
        Check.same("it is told on", net.tellFresh(1), 1);
        Check.same("59999 + 1 is a way", Check.way(net.mesh, net.fresh, 0), "[" + net.holder + ", 0, 60000, 0, 60000]");
        MetricTest far = new MetricTest(59000);
        far.tellFresh(1000);
        Check.same("59000 + 1000 is a way", far.mesh.way(far.fresh, 0, 2), 60000);
    }

    private static void sumAboveTheGreatest() {
        for (int[] sum : new int[][] {{59999, 2}, {60000, 1}, {60000, 1000}, {59001, 1000}}) {
            MetricTest net = new MetricTest(sum[0]);
            String what = sum[0] + " + " + sum[1];
            Check.same(what + ": nothing is told on", net.tellFresh(sum[1]), 0);
            Check.same(what + ": kept", net.mesh.told(net.fresh, net.holder, 0, 1), sum[0]);
            Check.same(what + ": good, as told", net.mesh.told(net.fresh, net.holder, 0, 2), 1);
            Check.same(what + ": no way", Check.way(net.mesh, net.fresh, 0), "[-1, -1, -1, -1, -1]");
        }
    }

    private static void greatestIsTold() {
        MetricTest net = new MetricTest(60000);
        Check.same("the bound", net.mesh.way(net.holder, 0, 4), 60000);
        int row = net.mesh.total(0);
        net.mesh.announce(net.holder);
        Check.same("the telling", Check.letter(net.mesh, row),
                "[1, " + net.holder + ", " + net.before + ", 0, 0, 60000]");
    }

    private static void costClimbsAboveTheGreatest() {
        MetricTest net = new MetricTest(59500);
        BabelMesh mesh = net.mesh;
        net.tellFresh(500);
        mesh.link(net.fresh, 11, 1);
        Check.same("60000 is a way", mesh.way(net.fresh, 0, 2), 60000);
        int row = mesh.total(0);
        mesh.link(net.holder, net.fresh, 501);
        Check.same("60001 is none", Check.way(mesh, net.fresh, 0), "[-1, -1, -1, 0, 60000]");
        int first = mesh.letter(row, 1) == net.fresh ? row : mesh.total(0) - 4;
        String from = ", " + net.fresh + ", ";
        Check.same("FAR is told", Check.letter(mesh, first), "[1" + from + net.holder + ", 0, 0, 65535]");
        Check.same("to all", Check.letter(mesh, first + 1), "[1" + from + "11, 0, 0, 65535]");
        Check.same("and asked", Check.letter(mesh, first + 2), "[2" + from + net.holder + ", 0, 1, 8]");
        Check.same("of all", Check.letter(mesh, first + 3), "[2" + from + "11, 0, 1, 8]");
        mesh.link(net.holder, net.fresh, 500);
        Check.same("60000 is a way again", mesh.way(net.fresh, 0, 2), 60000);
    }

    private static void farOfALostWay() {
        BabelMesh mesh = new BabelMesh();
        mesh.link(0, 1, 1);
        mesh.link(1, 2, 1);
        mesh.run(500);
        mesh.link(0, 1, 0);
        Check.same("FAR is 65535", mesh.letter(0, 5), 65535);
        mesh.run(1);
        Check.same("kept as told", mesh.told(2, 1, 0, 1), 65535);
        Check.same("no metric of a way", mesh.way(2, 0, 2), -1);
        Check.same("nor of a bound", mesh.way(2, 0, 4), 2);
    }
}
