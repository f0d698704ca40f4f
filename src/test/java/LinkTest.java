/** Promises 2 (link), 15 (cost), and total(4). */
public final class LinkTest {
    public static void main(String[] args) {
        comes();
        tellsAllWays();
        costChanges();
        goes();
        losesManyWays();
        anotherNeighbour();
        staysAsItWas();
        wrongInputs();
        Check.end("LinkTest");
    }

    private static void comes() {
        BabelMesh mesh = new BabelMesh();
        Check.same("it was none", mesh.link(7, 3, 1000), 0);
        Check.same("cost", mesh.cost(7, 3), 1000);
        Check.same("cost, the other way round", mesh.cost(3, 7), 1000);
        Check.same("cost of another", mesh.cost(3, 8), 0);
        Check.same("links", mesh.total(4), 1);
        Check.letters("the lesser one tells first", mesh, "[1, 3, 7, 3, 0, 0]", "[1, 7, 3, 7, 0, 0]");
        mesh.link(0, 11, 1);
        Check.same("links", mesh.total(4), 2);
        Check.same("edges of nodes and costs", mesh.cost(11, 0), 1);
    }

    private static void tellsAllWays() {
        BabelMesh mesh = new BabelMesh();
        mesh.link(1, 5, 10);
        mesh.link(1, 0, 3);
        mesh.run(500);
        mesh.link(2, 1, 4);
        Check.letters("all ways in order, itself too", mesh,
                "[1, 1, 2, 0, 0, 3]", "[1, 1, 2, 1, 0, 0]", "[1, 1, 2, 5, 0, 10]", "[1, 2, 1, 2, 0, 0]");
    }

    private static void costChanges() {
        BabelMesh mesh = new BabelMesh();
        mesh.link(0, 1, 5);
        mesh.link(1, 2, 3);
        mesh.run(500);
        Check.same("what it was", mesh.link(2, 1, 1), 3);
        Check.same("cost", mesh.cost(1, 2), 1);
        Check.letters("both choose anew, first the lesser one, destinations in order", mesh,
                "[1, 1, 0, 2, 0, 1]", "[1, 1, 2, 2, 0, 1]",
                "[1, 2, 1, 0, 0, 6]", "[1, 2, 1, 1, 0, 1]");
        Check.same("nearer: way and bound", Check.way(mesh, 2, 0), "[1, 0, 6, 0, 6]");
        mesh.run(500);
        mesh.link(1, 2, 9);
        Check.same("farther: the way, not the bound", Check.way(mesh, 2, 0), "[1, 0, 14, 0, 6]");
        Check.letters("farther ones are told too", mesh,
                "[1, 1, 0, 2, 0, 9]", "[1, 1, 2, 2, 0, 9]",
                "[1, 2, 1, 0, 0, 14]", "[1, 2, 1, 1, 0, 9]");
        Check.same("what it was", mesh.link(1, 2, 9), 9);
        Check.same("the same cost is no change", mesh.total(0), 4);
    }

    private static void goes() {
        BabelMesh mesh = new BabelMesh();
        Check.same("none goes", mesh.link(0, 1, 0), 0);
        Check.letters("nobody tells of that", mesh);
        mesh.link(0, 1, 5);
        mesh.link(1, 2, 3);
        mesh.run(500);
        Check.same("what it was", mesh.link(1, 0, 0), 5);
        Check.same("no cost", mesh.cost(0, 1), 0);
        Check.same("links", mesh.total(4), 1);
        Check.same("forgotten by the lesser", mesh.told(0, 1, 2, 0), -1);
        Check.same("forgotten by the greater", mesh.told(1, 0, 0, 1), -1);
        Check.same("what others told is not", mesh.told(1, 2, 2, 1), 0);
        Check.same("lost way, kept bound", Check.way(mesh, 1, 0), "[-1, -1, -1, 0, 5]");
        Check.letters("tells FAR, and asks behind that", mesh, "[1, 1, 2, 0, 0, 65535]", "[2, 1, 2, 0, 1, 8]");
    }

    private static void losesManyWays() {
        BabelMesh mesh = new BabelMesh();
        mesh.link(2, 3, 1);
        mesh.link(1, 2, 1);
        mesh.link(0, 1, 1);
        mesh.link(3, 4, 1);
        mesh.run(500);
        mesh.link(1, 2, 0);
        Check.letters("each destination: tellings, then requests; first the lesser node", mesh,
                "[1, 1, 0, 2, 0, 65535]", "[2, 1, 0, 2, 1, 8]",
                "[1, 1, 0, 3, 0, 65535]", "[2, 1, 0, 3, 1, 8]",
                "[1, 1, 0, 4, 0, 65535]", "[2, 1, 0, 4, 1, 8]",
                "[1, 2, 3, 0, 0, 65535]", "[2, 2, 3, 0, 1, 8]",
                "[1, 2, 3, 1, 0, 65535]", "[2, 2, 3, 1, 1, 8]");
    }

    /** 3 has two ways to 0 that are alike but for the neighbour. */
    private static void anotherNeighbour() {
        BabelMesh mesh = new BabelMesh();
        mesh.link(0, 1, 2);
        mesh.link(0, 2, 2);
        mesh.link(1, 3, 2);
        mesh.link(2, 3, 2);
        mesh.run(500);
        Check.same("the least of both", Check.way(mesh, 3, 0), "[1, 0, 4, 0, 4]");
        mesh.link(1, 3, 0);
        Check.same("the other one", Check.way(mesh, 3, 0), "[2, 0, 4, 0, 4]");
        boolean tells = false;
        for (int i = 0; i < mesh.total(0); i++) {
            tells |= Check.letter(mesh, i).equals("[1, 3, 2, 0, 0, 4]");
        }
        Check.yes("another neighbour is told of, though number and metric are the same", tells);
    }

    private static void staysAsItWas() {
        BabelMesh mesh = new BabelMesh();
        mesh.link(0, 1, 2);
        mesh.link(1, 2, 2);
        mesh.link(0, 2, 9);
        mesh.run(500);
        mesh.link(0, 2, 10);
        Check.letters("a link that nobody uses changes its cost", mesh);
        mesh.link(0, 2, 0);
        Check.letters("a link that nobody uses goes", mesh);
    }

    private static void wrongInputs() {
        BabelMesh mesh = new BabelMesh();
        BabelMesh twin = new BabelMesh();
        for (BabelMesh each : new BabelMesh[] {mesh, twin}) {
            each.link(0, 1, 5);
            each.run(1);
        }
        Check.refuses("same node", () -> mesh.link(1, 1, 5));
        Check.refuses("node -1", () -> mesh.link(-1, 1, 5));
        Check.refuses("node 12", () -> mesh.link(12, 1, 5));
        Check.refuses("other node -1", () -> mesh.link(1, -1, 5));
        Check.refuses("other node 12", () -> mesh.link(1, 12, 5));
        Check.refuses("cost -1", () -> mesh.link(0, 1, -1));
        Check.refuses("cost 1001", () -> mesh.link(0, 2, 1001));
        Check.refuses("least int", () -> mesh.link(Integer.MIN_VALUE, 1, 5));
        Check.refuses("greatest cost", () -> mesh.link(0, 2, Integer.MAX_VALUE));
        Check.refuses("cost of itself", () -> mesh.cost(1, 1));
        Check.refuses("cost of -1", () -> mesh.cost(-1, 1));
        Check.refuses("cost of 12", () -> mesh.cost(12, 1));
        Check.refuses("cost to -1", () -> mesh.cost(1, -1));
        Check.refuses("cost to 12", () -> mesh.cost(1, 12));
        Check.same("nothing changed", Check.view(mesh, 3), Check.view(twin, 3));
    }
}
