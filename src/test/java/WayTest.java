/** Promises 12 (way), 13 (told), 14 (trace), and the greatest metric. */
public final class WayTest {
    public static void main(String[] args) {
        ways();
        tells();
        traces();
        greatestMetric();
        wrongInputs();
        Check.end("WayTest");
    }

    private static void ways() {
        BabelMesh mesh = new BabelMesh();
        mesh.renew(4);
        Check.same("itself", Check.way(mesh, 4, 4), "[4, 1, 0, -1, -1]");
        Check.same("nobody", Check.way(mesh, 4, 5), "[-1, -1, -1, -1, -1]");
        mesh.link(4, 5, 10);
        mesh.link(5, 6, 20);
        mesh.run(500);
        Check.same("a neighbour", Check.way(mesh, 5, 4), "[4, 1, 10, 1, 10]");
        Check.same("over a neighbour", Check.way(mesh, 6, 4), "[5, 1, 30, 1, 30]");
        mesh.link(5, 6, 40);
        Check.same("the bound stays the least", Check.way(mesh, 6, 4), "[5, 1, 50, 1, 30]");
        mesh.link(5, 6, 0);
        Check.same("a bound without a way", Check.way(mesh, 6, 4), "[-1, -1, -1, 1, 30]");
        mesh.run(500);
        mesh.announce(4);
        mesh.run(500);
        Check.same("of itself there is never a bound", Check.way(mesh, 4, 4), "[4, 1, 0, -1, -1]");
    }

    private static void tells() {
        BabelMesh mesh = new BabelMesh();
        Check.same("nothing: number", mesh.told(0, 1, 2, 0), -1);
        Check.same("nothing: metric", mesh.told(0, 1, 2, 1), -1);
        Check.same("nothing is not good", mesh.told(0, 1, 2, 2), 0);
        mesh.renew(2);
        mesh.link(0, 1, 3);
        mesh.link(1, 2, 4);
        mesh.run(500);
        Check.same("number", mesh.told(0, 1, 2, 0), 1);
        Check.same("metric", mesh.told(0, 1, 2, 1), 4);
        Check.same("good", mesh.told(0, 1, 2, 2), 1);
        Check.same("a neighbour of itself", mesh.told(0, 1, 1, 1), 0);
        Check.same("what came back is not good", mesh.told(1, 0, 2, 2), 0);
        Check.same("what came back", mesh.told(1, 0, 2, 1), 7);
        mesh.link(1, 2, 0);
        mesh.run(500);
        Check.same("FAR", mesh.told(0, 1, 2, 1), 65535);
        Check.same("FAR is not good", mesh.told(0, 1, 2, 2), 0);
        mesh.link(1, 3, 1);
        mesh.announce(1);
        mesh.run(500);
        Check.same("FAR, told to one without a bound", mesh.told(3, 1, 2, 1), 65535);
        Check.same("has no bound", mesh.way(3, 2, 3), -1);
        Check.same("FAR is not good even then", mesh.told(3, 1, 2, 2), 0);
    }

    private static void traces() {
        BabelMesh mesh = new BabelMesh();
        for (int node = 0; node < 11; node++) {
            mesh.link(node, node + 1, 1);
            mesh.run(500);
        }
        while (mesh.total(0) > 0) {
            mesh.run(500);
        }
        Check.same("the longest", mesh.trace(0, 11), 11);
        Check.same("back", mesh.trace(11, 0), 11);
        Check.same("a part", mesh.trace(3, 7), 4);
        Check.same("itself", mesh.trace(5, 5), 0);
        mesh.link(5, 6, 0);
        Check.same("nobody has heard of it but 5", mesh.way(4, 11, 0), 5);
        Check.same("somebody on the way has none", mesh.trace(0, 11), -1);
        Check.same("this side", mesh.trace(0, 5), 5);
        Check.same("none itself", mesh.trace(5, 11), -1);
    }

    /**
     * 1, 2 and 3 hand a way to 0 on to each other though its end is long gone: the one that loses
     * it is cut off and rebooted before its word of that is heard. So the metric climbs.
     */
    private static void greatestMetric() {
        BabelMesh mesh = new BabelMesh();
        mesh.link(0, 1, 1000);
        mesh.deliver(0);
        int before = 0;
        int holder = 1;
        int fresh = 2;
        for (int step = 2; step <= 60; step++) {
            pass(mesh, holder, fresh, 1000);
            mesh.link(before, holder, 0);
            if (before != 0) {
                mesh.reboot(before);
            }
            int next = before == 0 ? 3 : before;
            before = holder;
            holder = fresh;
            fresh = next;
        }
        Check.same("60000 is not FAR", mesh.way(holder, 0, 2), 60000);
        pass(mesh, holder, fresh, 1);
        Check.same("told", mesh.told(fresh, holder, 0, 1), 60000);
        Check.same("what was told is good", mesh.told(fresh, holder, 0, 2), 1);
        Check.same("but the way is FAR", Check.way(mesh, fresh, 0), "[-1, -1, -1, -1, -1]");
        mesh.link(before, holder, 999);
        Check.same("59999 is a way again", Check.way(mesh, holder, 0), "[" + before + ", 0, 59999, 0, 59999]");
        mesh.link(before, holder, 1000);
        Check.same("60000 is a way", mesh.way(holder, 0, 2), 60000);
    }

    private static void pass(BabelMesh mesh, int holder, int fresh, int cost) {
        int next = mesh.total(0);
        mesh.link(holder, fresh, cost);
        int first = holder < fresh ? next : mesh.total(0) - 2;
        Check.same("the telling of 0", mesh.letter(first, 1), holder);
        mesh.deliver(first);
    }

    private static void wrongInputs() {
        BabelMesh mesh = new BabelMesh();
        BabelMesh twin = new BabelMesh();
        for (BabelMesh each : new BabelMesh[] {mesh, twin}) {
            each.link(0, 1, 5);
            each.run(3);
        }
        for (int node : new int[] {-1, 12}) {
            Check.refuses("way of " + node, () -> mesh.way(node, 0, 0));
            Check.refuses("way to " + node, () -> mesh.way(0, node, 0));
            Check.refuses("told to " + node, () -> mesh.told(node, 1, 2, 0));
            Check.refuses("told by " + node, () -> mesh.told(0, node, 2, 0));
            Check.refuses("told of " + node, () -> mesh.told(0, 1, node, 0));
            Check.refuses("trace of " + node, () -> mesh.trace(node, 0));
            Check.refuses("trace to " + node, () -> mesh.trace(0, node));
            Check.refuses("trace to itself, " + node, () -> mesh.trace(node, node));
        }
        Check.refuses("way's -1", () -> mesh.way(0, 1, -1));
        Check.refuses("way's 5", () -> mesh.way(0, 1, 5));
        Check.refuses("told's -1", () -> mesh.told(0, 1, 1, -1));
        Check.refuses("told's 3", () -> mesh.told(0, 1, 1, 3));
        Check.refuses("told by itself", () -> mesh.told(0, 0, 1, 0));
        Check.refuses("told of itself", () -> mesh.told(0, 1, 0, 0));
        Check.same("nothing changed", Check.view(mesh, 3), Check.view(twin, 3));
    }
}
