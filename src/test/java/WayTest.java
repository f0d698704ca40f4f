/** Promises 12 (way), 13 (told) and 14 (trace). */
public final class WayTest {
    public static void main(String[] args) {
        ways();
        tells();
        traces();
        traceOfTwo();
        toldByNoNeighbour();
        Check.end("WayTest");
    }

    private static void ways() {
        BabelMesh mesh = new BabelMesh();
        mesh.renew(4);
        Check.same("itself", Check.way(mesh, 4, 4), "[4, 1, 0, -1, -1]");
        Check.same("nobody", Check.way(mesh, 4, 5), "[-1, -1, -1, -1, -1]");
        mesh.link(4, 5, 10);
        mesh.link(5, 6, 20);
        mesh.run(500);
        Check.same("a neighbour", Check.way(mesh, 5, 4), "[4, 1, 10, 1, 10]");
        Check.same("over a neighbour", Check.way(mesh, 6, 4), "[5, 1, 30, 1, 30]");
        mesh.link(5, 6, 40);
        Check.same("the bound stays the least", Check.way(mesh, 6, 4), "[5, 1, 50, 1, 30]");
        mesh.link(5, 6, 0);
        Check.same("a bound without a way", Check.way(mesh, 6, 4), "[-1, -1, -1, 1, 30]");
        mesh.run(500);
        mesh.announce(4);
        mesh.run(500);
        Check.same("of itself there is never a bound", Check.way(mesh, 4, 4), "[4, 1, 0, -1, -1]");
    }

    private static void tells() {
        BabelMesh mesh = new BabelMesh();
        Check.same("nothing: number", mesh.told(0, 1, 2, 0), -1);
        Check.same("nothing: metric", mesh.told(0, 1, 2, 1), -1);
        Check.same("nothing is not good", mesh.told(0, 1, 2, 2), 0);
        mesh.renew(2);
        mesh.link(0, 1, 3);
        mesh.link(1, 2, 4);
        mesh.run(500);
        Check.same("number", mesh.told(0, 1, 2, 0), 1);
        Check.same("metric", mesh.told(0, 1, 2, 1), 4);
        Check.same("good", mesh.told(0, 1, 2, 2), 1);
        Check.same("a neighbour of itself", mesh.told(0, 1, 1, 1), 0);
        Check.same("what came back is not good", mesh.told(1, 0, 2, 2), 0);
        Check.same("what came back", mesh.told(1, 0, 2, 1), 7);
        mesh.link(1, 2, 0);
        mesh.run(500);
        Check.same("FAR", mesh.told(0, 1, 2, 1), 65535);
        Check.same("FAR is not good", mesh.told(0, 1, 2, 2), 0);
        mesh.link(1, 3, 1);
        mesh.announce(1);
        mesh.run(500);
        Check.same("FAR, told to one without a bound", mesh.told(3, 1, 2, 1), 65535);
        Check.same("has no bound", mesh.way(3, 2, 3), -1);
        Check.same("FAR is not good even then", mesh.told(3, 1, 2, 2), 0);
    }

    private static void traces() {
        BabelMesh mesh = new BabelMesh();
        for (int node = 0; node < 11; node++) {
            mesh.link(node, node + 1, 1);
            mesh.run(500);
        }
        while (mesh.total(0) > 0) {
            mesh.run(500);
        }
        Check.same("the longest", mesh.trace(0, 11), 11);
        Check.same("back", mesh.trace(11, 0), 11);
        Check.same("a part", mesh.trace(3, 7), 4);
        Check.same("itself", mesh.trace(5, 5), 0);
        mesh.link(5, 6, 0);
        Check.same("nobody has heard of it but 5", mesh.way(4, 11, 0), 5);
        Check.same("somebody on the way has none", mesh.trace(0, 11), -1);
        Check.same("this side", mesh.trace(0, 5), 5);
        Check.same("none itself", mesh.trace(5, 11), -1);
    }

    private static void traceOfTwo() {
        BabelMesh mesh = new BabelMesh();
        Check.same("no link", mesh.trace(0, 11), -1);
        Check.same("itself, without links", mesh.trace(11, 11), 0);
        mesh.link(0, 11, 1);
        Check.same("nothing heard yet", mesh.trace(0, 11), -1);
        mesh.run(1);
        Check.same("11 has heard", mesh.trace(11, 0), 1);
        Check.same("0 has not", mesh.trace(0, 11), -1);
        mesh.run(1);
        Check.same("now it has", mesh.trace(0, 11), 1);
    }

    /** A node that is no neighbour has told nothing, whatever it told when it was one. */
    private static void toldByNoNeighbour() {
        BabelMesh mesh = new BabelMesh();
        mesh.link(0, 1, 3);
        mesh.run(500);
        Check.same("by a neighbour", mesh.told(0, 1, 1, 0), 0);
        mesh.link(0, 1, 0);
        Check.same("number", mesh.told(0, 1, 1, 0), -1);
        Check.same("metric", mesh.told(0, 1, 1, 1), -1);
        Check.same("not good", mesh.told(0, 1, 1, 2), 0);
        Check.same("by one that never was one", mesh.told(0, 11, 11, 0), -1);
    }
}
