/** Promises 2 (link), 15 (cost), and total(4). */
public final class LinkTest {
    public static void main(String[] args) {
        comes();
        tellsAllWays();
        costChanges();
        goes();
        losesManyWays();
        anotherNeighbour();
        staysAsItWas();
        leastAndGreatestCost();
        whatIsNoChange();
        comesWithoutALostWay();
        comesAndGoes();
        goesAtTheLastNeighbour();
        Check.end("LinkTest");
    }

    private static void comes() {
        BabelMesh mesh = new BabelMesh();
        Check.same("it was none", mesh.link(7, 3, 1000), 0);
        Check.same("cost", mesh.cost(7, 3), 1000);
        Check.same("cost, the other way round", mesh.cost(3, 7), 1000);
        Check.same("cost of another", mesh.cost(3, 8), 0);
        Check.same("links", mesh.total(4), 1);
        Check.letters("the lesser one tells first", mesh, "[1, 3, 7, 3, 0, 0]", "[1, 7, 3, 7, 0, 0]");
        mesh.link(0, 11, 1);
        Check.same("links", mesh.total(4), 2);
        Check.same("edges of nodes and costs", mesh.cost(11, 0), 1);
    }

    private static void tellsAllWays() {
        BabelMesh mesh = new BabelMesh();
        mesh.link(1, 5, 10);
        mesh.link(1, 0, 3);
        mesh.run(500);
        mesh.link(2, 1, 4);
        Check.letters("all ways in order, itself too", mesh,
                "[1, 1, 2, 0, 0, 3]", "[1, 1, 2, 1, 0, 0]", "[1, 1, 2, 5, 0, 10]", "[1, 2, 1, 2, 0, 0]");
    }

    private static void costChanges() {
        BabelMesh mesh = new BabelMesh();
        mesh.link(0, 1, 5);
        mesh.link(1, 2, 3);
        mesh.run(500);
        Check.same("what it was", mesh.link(2, 1, 1), 3);
        Check.same("cost", mesh.cost(1, 2), 1);
        Check.letters("both choose anew, first the lesser one, destinations in order", mesh,
                "[1, 1, 0, 2, 0, 1]", "[1, 1, 2, 2, 0, 1]",
                "[1, 2, 1, 0, 0, 6]", "[1, 2, 1, 1, 0, 1]");
        Check.same("nearer: way and bound", Check.way(mesh, 2, 0), "[1, 0, 6, 0, 6]");
        mesh.run(500);
        mesh.link(1, 2, 9);
        Check.same("farther: the way, not the bound", Check.way(mesh, 2, 0), "[1, 0, 14, 0, 6]");
        Check.letters("farther ones are told too", mesh,
                "[1, 1, 0, 2, 0, 9]", "[1, 1, 2, 2, 0, 9]",
                "[1, 2, 1, 0, 0, 14]", "[1, 2, 1, 1, 0, 9]");
        Check.same("what it was", mesh.link(1, 2, 9), 9);
        Check.same("the same cost is no change", mesh.total(0), 4);
    }

    private static void goes() {
        BabelMesh mesh = new BabelMesh();
        Check.same("none goes", mesh.link(0, 1, 0), 0);
        Check.letters("nobody tells of that", mesh);
        mesh.link(0, 1, 5);
        mesh.link(1, 2, 3);
        mesh.run(500);
        Check.same("what it was", mesh.link(1, 0, 0), 5);
        Check.same("no cost", mesh.cost(0, 1), 0);
        Check.same("links", mesh.total(4), 1);
        Check.same("forgotten by the lesser", mesh.told(0, 1, 2, 0), -1);
        Check.same("forgotten by the greater", mesh.told(1, 0, 0, 1), -1);
        Check.same("what others told is not", mesh.told(1, 2, 2, 1), 0);
        Check.same("lost way, kept bound", Check.way(mesh, 1, 0), "[-1, -1, -1, 0, 5]");
        Check.letters("tells FAR, and asks behind that", mesh, "[1, 1, 2, 0, 0, 65535]", "[2, 1, 2, 0, 1, 8]");
    }

    private static void losesManyWays() {
        BabelMesh mesh = new BabelMesh();
        mesh.link(2, 3, 1);
        mesh.link(1, 2, 1);
        mesh.link(0, 1, 1);
        mesh.link(3, 4, 1);
        mesh.run(500);
        mesh.link(1, 2, 0);
        Check.letters("each destination: tellings, then requests; first the lesser node", mesh,
                "[1, 1, 0, 2, 0, 65535]", "[2, 1, 0, 2, 1, 8]",
                "[1, 1, 0, 3, 0, 65535]", "[2, 1, 0, 3, 1, 8]",
                "[1, 1, 0, 4, 0, 65535]", "[2, 1, 0, 4, 1, 8]",
                "[1, 2, 3, 0, 0, 65535]", "[2, 2, 3, 0, 1, 8]",
                "[1, 2, 3, 1, 0, 65535]", "[2, 2, 3, 1, 1, 8]");
    }

    /** 3 has two ways to 0 that are alike but for the neighbour. */
    private static void anotherNeighbour() {
        BabelMesh mesh = new BabelMesh();
        mesh.link(0, 1, 2);
        mesh.link(0, 2, 2);
        mesh.link(1, 3, 2);
        mesh.link(2, 3, 2);
        mesh.run(500);
        Check.same("the least of both", Check.way(mesh, 3, 0), "[1, 0, 4, 0, 4]");
        mesh.link(1, 3, 0);
        Check.same("the other one", Check.way(mesh, 3, 0), "[2, 0, 4, 0, 4]");
        boolean tells = false;
        for (int i = 0; i < mesh.total(0); i++) {
            tells |= Check.letter(mesh, i).equals("[1, 3, 2, 0, 0, 4]");
        }
        Check.yes("another neighbour is told of, though number and metric are the same", tells);
    }

    private static void staysAsItWas() {
        BabelMesh mesh = new BabelMesh();
        mesh.link(0, 1, 2);
        mesh.link(1, 2, 2);
        mesh.link(0, 2, 9);
        mesh.run(500);
        mesh.link(0, 2, 10);
        Check.letters("a link that nobody uses changes its cost", mesh);
        mesh.link(0, 2, 0);
        Check.letters("a link that nobody uses goes", mesh);
    }

    private static void leastAndGreatestCost() {
        BabelMesh mesh = new BabelMesh();
        mesh.link(0, 1, 1);
        mesh.link(10, 11, 1000);
        mesh.run(500);
        Check.same("the least", mesh.cost(0, 1), 1);
        Check.same("the least sum", mesh.way(1, 0, 2), 1);
        Check.same("the greatest", mesh.cost(11, 10), 1000);
        Check.same("the greatest sum", mesh.way(11, 10, 2), 1000);
        Check.same("from the least", mesh.link(1, 0, 1000), 1);
        Check.same("to the greatest", mesh.way(1, 0, 2), 1000);
        Check.same("from the greatest", mesh.link(11, 10, 1), 1000);
        Check.same("to the least", mesh.way(11, 10, 2), 1);
        Check.same("0 is none", mesh.link(11, 10, 0), 1);
        Check.same("no cost", mesh.cost(11, 10), 0);
        Check.same("no way", mesh.way(11, 10, 0), -1);
    }

    /** Letters lie in the row, nothing of which has been heard. */
    private static BabelMesh triangle() {
        BabelMesh mesh = new BabelMesh();
        mesh.link(0, 1, 5);
        mesh.link(1, 2, 3);
        mesh.run(7);
        mesh.link(0, 2, 1);
        return mesh;
    }

    private static void whatIsNoChange() {
        Check.unchanged("the cost that it has", LinkTest::triangle, mesh -> mesh.link(1, 0, 5));
        Check.unchanged("no link goes", LinkTest::triangle, mesh -> mesh.link(1, 9, 0));
        BabelMesh mesh = triangle();
        Check.same("what it was", mesh.link(1, 0, 5), 5);
        Check.same("what none was", mesh.link(1, 9, 0), 0);
    }

    /** A new neighbour hears of ways alone, not of a bound without one. */
    private static void comesWithoutALostWay() {
        BabelMesh mesh = new BabelMesh();
        mesh.link(0, 1, 5);
        mesh.run(500);
        mesh.link(0, 1, 0);
        Check.same("a bound and no way", Check.way(mesh, 1, 0), "[-1, -1, -1, 0, 5]");
        mesh.link(1, 7, 2);
        Check.letters("each itself alone", mesh, "[1, 1, 7, 1, 0, 0]", "[1, 7, 1, 7, 0, 0]");
    }

    private static void comesAndGoes() {
        BabelMesh mesh = new BabelMesh();
        Check.same("it was none", mesh.link(4, 9, 7), 0);
        Check.same("it was 7", mesh.link(9, 4, 0), 7);
        Check.same("it was none again", mesh.link(4, 9, 8), 0);
        Check.letters("both times both tell", mesh, "[1, 4, 9, 4, 0, 0]", "[1, 9, 4, 9, 0, 0]",
                "[1, 4, 9, 4, 0, 0]", "[1, 9, 4, 9, 0, 0]");
        mesh.run(500);
        Check.same("none was lost", mesh.total(3), 0);
        mesh.link(4, 9, 0);
        Check.same("nobody is left to be told", mesh.total(0), 0);
        Check.same("both forget", mesh.told(4, 9, 9, 0) + mesh.told(9, 4, 4, 0), -2);
        Check.same("both lose the way", mesh.way(4, 9, 0) + mesh.way(9, 4, 0), -2);
        Check.same("both keep the bound", mesh.way(4, 9, 4) + mesh.way(9, 4, 4), 16);
    }

    private static void goesAtTheLastNeighbour() {
        BabelMesh mesh = new BabelMesh();
        mesh.link(0, 1, 5);
        mesh.link(1, 2, 3);
        mesh.run(500);
        int sent = mesh.total(1);
        mesh.link(1, 2, 0);
        Check.same("2 has nobody to tell, 1 tells 0 and asks it", mesh.total(1), sent + 2);
        Check.same("2 has no way", mesh.way(2, 0, 0), -1);
        Check.same("2 has its bound", Check.way(mesh, 2, 0), "[-1, -1, -1, 0, 8]");
    }
}
