/** The terms GOOD, WAY, CHOOSING and BOUND, sentence by sentence, at their edges. */
public final class ChoosingTest {
    public static void main(String[] args) {
        sameNumberBelowTheBound();
        olderNumberBelowTheBound();
        newerNumberAboveTheBound();
        anyMetricWithoutABound();
        farIsNeverGood();
        leastMetric();
        tieKeepsTheChosenOne();
        tieWithoutTheChosenOne();
        noneIsGood();
        anotherNeighbourAlone();
        anotherNumberAlone();
        anotherMetricAlone();
        nothingIsAnother();
        chosenOneTellsWorse();
        otherOneTellsWorse();
        boundOfATelling();
        noBoundOfItself();
        Check.end("ChoosingTest");
    }

    /** 1 has the bound (0, 5) of 0; 2 tells it the number 0 and that metric. */
    private static BabelMesh toldBesideABound(int metric) {
        BabelMesh mesh = new BabelMesh();
        mesh.link(0, 1, 5);
        mesh.run(500);
        mesh.link(0, 2, metric);
        mesh.link(1, 2, 1);
        mesh.run(500);
        Check.same("the bound", Check.way(mesh, 1, 0), "[0, 0, 5, 0, 5]");
        Check.same("told", mesh.told(1, 2, 0, 1), metric);
        return mesh;
    }

    private static void sameNumberBelowTheBound() {
        Check.same("one below the bound's metric", toldBesideABound(4).told(1, 2, 0, 2), 1);
        Check.same("the bound's metric", toldBesideABound(5).told(1, 2, 0, 2), 0);
        Check.same("one above the bound's metric", toldBesideABound(6).told(1, 2, 0, 2), 0);
        BabelMesh below = toldBesideABound(4);
        below.link(0, 1, 0);
        Check.same("good: taken when the other way goes", Check.way(below, 1, 0), "[2, 0, 5, 0, 5]");
        BabelMesh same = toldBesideABound(5);
        same.link(0, 1, 0);
        Check.same("not good: not taken", Check.way(same, 1, 0), "[-1, -1, -1, 0, 5]");
    }

    private static void olderNumberBelowTheBound() {
        BabelMesh mesh = new BabelMesh();
        mesh.link(0, 2, 1);
        mesh.run(500);
        mesh.renew(0);
        mesh.drop(0);
        mesh.link(0, 1, 5);
        mesh.deliver(0);
        Check.same("the bound", Check.way(mesh, 1, 0), "[0, 1, 5, 1, 5]");
        Check.dropAll(mesh);
        mesh.link(1, 2, 1);
        Check.same("2 has not heard", Check.letter(mesh, 2), "[1, 2, 1, 0, 0, 1]");
        Check.same("no news", mesh.deliver(2), 0);
        Check.same("kept", mesh.told(1, 2, 0, 1), 1);
        Check.same("but not good", mesh.told(1, 2, 0, 2), 0);
        Check.same("though it were nearer", Check.way(mesh, 1, 0), "[0, 1, 5, 1, 5]");
    }

    private static void newerNumberAboveTheBound() {
        BabelMesh mesh = new BabelMesh();
        mesh.link(0, 1, 5);
        mesh.run(500);
        mesh.renew(0);
        mesh.drop(0);
        mesh.link(0, 2, 900);
        mesh.deliver(0);
        Check.dropAll(mesh);
        mesh.link(1, 2, 1);
        Check.same("2 has heard", Check.letter(mesh, 2), "[1, 2, 1, 0, 1, 900]");
        Check.same("no news", mesh.deliver(2), 0);
        Check.same("newer, so good", mesh.told(1, 2, 0, 2), 1);
        Check.same("but not the least metric", Check.way(mesh, 1, 0), "[0, 0, 5, 0, 5]");
        mesh.link(0, 1, 0);
        Check.same("taken when the other way goes, the bound with it", Check.way(mesh, 1, 0), "[2, 1, 901, 1, 901]");
    }

    private static void anyMetricWithoutABound() {
        BabelMesh mesh = new BabelMesh();
        for (int node = 0; node < 11; node++) {
            mesh.link(node, node + 1, 1000);
            mesh.run(500);
        }
        Check.same("the farthest of a line", Check.way(mesh, 11, 0), "[10, 0, 11000, 0, 11000]");
        Check.same("told", mesh.told(11, 10, 0, 1), 10000);
        Check.same("good: below the bound that came of it", mesh.told(11, 10, 0, 2), 1);
    }

    /** 3 has no bound for 0, and 1 has no way to it. */
    private static void farIsNeverGood() {
        BabelMesh mesh = new BabelMesh();
        mesh.link(0, 1, 1);
        mesh.run(500);
        mesh.link(0, 1, 0);
        mesh.link(1, 3, 1);
        Check.dropAll(mesh);
        mesh.announce(1);
        Check.same("FAR", Check.letter(mesh, 0), "[1, 1, 3, 0, 0, 65535]");
        Check.same("nothing comes of it", mesh.deliver(0), 0);
        Check.same("kept", mesh.told(3, 1, 0, 1), 65535);
        Check.same("its number too", mesh.told(3, 1, 0, 0), 0);
        Check.same("not good, though there is no bound", mesh.told(3, 1, 0, 2), 0);
        Check.same("no way, no bound", Check.way(mesh, 3, 0), "[-1, -1, -1, -1, -1]");
    }

    /** 1 and 2 are 10 from 0; 3 is linked first with the one, then with the other. */
    private static BabelMesh twoWays(int first, int firstCost, int second, int secondCost) {
        BabelMesh mesh = new BabelMesh();
        mesh.link(0, 1, 10);
        mesh.link(0, 2, 10);
        mesh.link(first, 3, firstCost);
        mesh.run(500);
        mesh.link(second, 3, secondCost);
        mesh.run(500);
        Check.same("both are good", mesh.told(3, 1, 0, 2) + mesh.told(3, 2, 0, 2), 2);
        return mesh;
    }

    private static void leastMetric() {
        Check.same("one nearer", Check.way(twoWays(1, 5, 2, 4), 3, 0), "[2, 0, 14, 0, 14]");
        Check.same("one farther", Check.way(twoWays(1, 5, 2, 6), 3, 0), "[1, 0, 15, 0, 15]");
        Check.same("the lesser one, one nearer", Check.way(twoWays(2, 5, 1, 4), 3, 0), "[1, 0, 14, 0, 14]");
        Check.same("the lesser one, one farther", Check.way(twoWays(2, 5, 1, 6), 3, 0), "[2, 0, 15, 0, 15]");
    }

    private static void tieKeepsTheChosenOne() {
        Check.same("the lesser one was chosen", twoWays(1, 5, 2, 5).way(3, 0, 0), 1);
        Check.same("the greater one was chosen", twoWays(2, 5, 1, 5).way(3, 0, 0), 2);
    }

    /** 4 is nearest until its link goes; then 1 and 2 are alike. */
    private static void tieWithoutTheChosenOne() {
        BabelMesh mesh = new BabelMesh();
        for (int middle : new int[] {4, 2, 1}) {
            mesh.link(0, middle, 10);
            mesh.link(middle, 3, middle == 4 ? 4 : 5);
            mesh.run(500);
        }
        Check.same("the nearest", mesh.way(3, 0, 0), 4);
        mesh.link(3, 4, 0);
        Check.same("of two the least", Check.way(mesh, 3, 0), "[1, 0, 15, 0, 14]");
    }

    private static void noneIsGood() {
        BabelMesh mesh = toldBesideABound(5);
        mesh.link(1, 7, 2);
        Check.dropAll(mesh);
        mesh.link(0, 1, 0);
        Check.same("none", Check.way(mesh, 1, 0), "[-1, -1, -1, 0, 5]");
        Check.letters("0 has another way to 1; 1 tells all, then asks all", mesh, "[1, 0, 2, 1, 0, 6]",
                "[1, 1, 2, 0, 0, 65535]", "[1, 1, 7, 0, 0, 65535]", "[2, 1, 2, 0, 1, 8]", "[2, 1, 7, 0, 1, 8]");
        Check.dropAll(mesh);
        mesh.announce(2);
        Check.same("2 tells 1 the same again", Check.letter(mesh, 1), "[1, 2, 1, 0, 0, 5]");
        Check.same("none before, none now: nothing is sent", mesh.deliver(1), 0);
    }

    private static void anotherNeighbourAlone() {
        BabelMesh mesh = twoWays(1, 5, 2, 5);
        mesh.link(1, 3, 0);
        Check.same("number and metric are as they were", Check.way(mesh, 3, 0), "[2, 0, 15, 0, 15]");
        int told = 0;
        for (int i = 0; i < mesh.total(0); i++) {
            told += Check.letter(mesh, i).equals("[1, 3, 2, 0, 0, 15]") ? 1 : 0;
        }
        Check.same("told all the same", told, 1);
    }

    private static BabelMesh line() {
        BabelMesh mesh = new BabelMesh();
        mesh.link(0, 1, 3);
        mesh.link(1, 2, 4);
        mesh.run(500);
        return mesh;
    }

    private static void anotherNumberAlone() {
        BabelMesh mesh = line();
        mesh.renew(0);
        Check.same("told", mesh.deliver(0), 2);
        Check.letters("to all, in order", mesh, "[1, 1, 0, 0, 1, 3]", "[1, 1, 2, 0, 1, 3]");
    }

    private static void anotherMetricAlone() {
        for (int cost : new int[] {2, 4}) {
            BabelMesh mesh = line();
            mesh.link(0, 1, cost);
            Check.same("1 tells 0", Check.letter(mesh, mesh.total(0) - 2), "[1, 1, 0, 0, 0, " + cost + "]");
            Check.same("1 tells 2", Check.letter(mesh, mesh.total(0) - 1), "[1, 1, 2, 0, 0, " + cost + "]");
        }
    }

    private static void nothingIsAnother() {
        BabelMesh mesh = line();
        for (int node = 0; node < 3; node++) {
            mesh.announce(node);
        }
        int sent = mesh.total(1);
        mesh.run(500);
        Check.same("what is known already brings nothing about", mesh.total(1), sent);
    }

    /** 2's bound of 0 is (0, 7), by 1's telling of 3. Then 1 tells it more. */
    private static BabelMesh toldWorse(int cost) {
        BabelMesh mesh = line();
        mesh.link(0, 1, cost);
        while (mesh.letter(0, 2) != 2 || mesh.letter(0, 3) != 0) {
            mesh.drop(0);
        }
        Check.same("1 tells 2", Check.letter(mesh, 0), "[1, 1, 2, 0, 0, " + cost + "]");
        mesh.deliver(0);
        return mesh;
    }

    private static void chosenOneTellsWorse() {
        Check.same("one below the bound: kept", toldWorse(6).told(2, 1, 0, 1), 6);
        Check.same("the way with it", Check.way(toldWorse(6), 2, 0), "[1, 0, 10, 0, 7]");
        Check.same("like the bound: not kept", toldWorse(7).told(2, 1, 0, 1), 3);
        Check.same("the way stays", Check.way(toldWorse(7), 2, 0), "[1, 0, 7, 0, 7]");
        Check.same("above the bound: not kept", toldWorse(8).told(2, 1, 0, 1), 3);
        BabelMesh far = line();
        far.link(0, 1, 0);
        far.deliver(0);
        Check.same("FAR: kept", far.told(2, 1, 0, 1), 65535);
        Check.same("and no way", far.way(2, 0, 0), -1);
    }

    /** What one that is not chosen tells is kept, good or not. */
    private static void otherOneTellsWorse() {
        BabelMesh mesh = toldBesideABound(4);
        mesh.link(0, 2, 5);
        mesh.run(500);
        Check.same("kept", mesh.told(1, 2, 0, 1), 5);
        Check.same("good no more", mesh.told(1, 2, 0, 2), 0);
    }

    private static void boundOfATelling() {
        BabelMesh mesh = new BabelMesh();
        mesh.link(0, 1, 5);
        Check.same("none yet", mesh.way(1, 0, 4), -1);
        mesh.run(500);
        Check.same("there was none", Check.way(mesh, 1, 0), "[0, 0, 5, 0, 5]");
        mesh.link(0, 1, 6);
        Check.same("one above", Check.way(mesh, 1, 0), "[0, 0, 6, 0, 5]");
        mesh.link(0, 1, 5);
        Check.same("the same", Check.way(mesh, 1, 0), "[0, 0, 5, 0, 5]");
        mesh.link(0, 1, 4);
        Check.same("one below", Check.way(mesh, 1, 0), "[0, 0, 4, 0, 4]");
        Check.dropAll(mesh);
        mesh.link(0, 1, 9);
        mesh.renew(0);
        mesh.run(500);
        Check.same("newer, and above", Check.way(mesh, 1, 0), "[0, 1, 9, 1, 9]");
        mesh.link(0, 1, 0);
        Check.same("FAR is no bound", Check.way(mesh, 1, 0), "[-1, -1, -1, 1, 9]");
    }

    private static void noBoundOfItself() {
        BabelMesh mesh = line();
        mesh.renew(1);
        mesh.announce(1);
        mesh.run(500);
        Check.same("told often", Check.way(mesh, 1, 1), "[1, 1, 0, -1, -1]");
    }
}
