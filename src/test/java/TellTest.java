/** Promises 3 (announce), 4 (renew), and what a telling does that is handed over. */
public final class TellTest {
    public static void main(String[] args) {
        announces();
        renews();
        hears();
        nearerOnly();
        keepsTheChosenOneOnATie();
        worseWordOfTheChosenOne();
        newerNumber();
        lostWay();
        tellingOfItself();
        announcesNothingKnown();
        Check.end("TellTest");
    }

    private static void announces() {
        BabelMesh mesh = new BabelMesh();
        Check.same("without links", mesh.announce(4), 0);
        mesh.link(1, 2, 3);
        mesh.link(0, 1, 5);
        mesh.link(2, 4, 1);
        mesh.run(500);
        Check.same("four destinations, two neighbours", mesh.announce(1), 8);
        Check.letters("destinations in order, each to the neighbours in order", mesh,
                "[1, 1, 0, 0, 0, 5]", "[1, 1, 2, 0, 0, 5]", "[1, 1, 0, 1, 0, 0]", "[1, 1, 2, 1, 0, 0]",
                "[1, 1, 0, 2, 0, 3]", "[1, 1, 2, 2, 0, 3]", "[1, 1, 0, 4, 0, 4]", "[1, 1, 2, 4, 0, 4]");
        mesh.run(500);
        mesh.link(1, 2, 0);
        mesh.run(500);
        Check.same("bounds without a way too", mesh.announce(1), 4);
        Check.letters("their number and FAR", mesh,
                "[1, 1, 0, 0, 0, 5]", "[1, 1, 0, 1, 0, 0]", "[1, 1, 0, 2, 0, 65535]", "[1, 1, 0, 4, 0, 65535]");
    }

    private static void renews() {
        BabelMesh mesh = new BabelMesh();
        Check.same("without links", mesh.renew(3), 1);
        Check.same("no letter", mesh.total(1), 0);
        mesh.link(3, 8, 2);
        mesh.link(1, 3, 2);
        mesh.run(500);
        Check.same("the number", mesh.renew(3), 2);
        Check.same("its own", mesh.way(3, 3, 1), 2);
        Check.same("of another", mesh.way(8, 8, 1), 0);
        Check.letters("it tells itself alone", mesh, "[1, 3, 1, 3, 2, 0]", "[1, 3, 8, 3, 2, 0]");
        mesh.run(1);
        Check.same("taken as newer", Check.way(mesh, 1, 3), "[3, 2, 2, 2, 2]");
        Check.same("not heard yet", Check.way(mesh, 8, 3), "[3, 1, 2, 1, 2]");
    }

    private static void hears() {
        BabelMesh mesh = new BabelMesh();
        mesh.link(0, 1, 5);
        mesh.link(1, 2, 3);
        Check.same("letters sent by it", mesh.deliver(0), 2);
        Check.same("number, way, bound", Check.way(mesh, 1, 0), "[0, 0, 5, 0, 5]");
        Check.same("told: number", mesh.told(1, 0, 0, 0), 0);
        Check.same("told: metric", mesh.told(1, 0, 0, 1), 0);
        Check.letters("told on to all, also to the one it came from", mesh,
                "[1, 1, 0, 1, 0, 0]", "[1, 1, 2, 1, 0, 0]", "[1, 2, 1, 2, 0, 0]",
                "[1, 1, 0, 0, 0, 5]", "[1, 1, 2, 0, 0, 5]");
        Check.same("a telling of itself is nothing", mesh.deliver(3), 0);
        Check.same("it keeps its own number", Check.way(mesh, 0, 0), "[0, 0, 0, -1, -1]");
    }

    /** 1 knows 0 with metric 2; what 2 tells of 0 (metric 2 as well) is not below the bound. */
    private static void nearerOnly() {
        BabelMesh mesh = new BabelMesh();
        mesh.link(0, 1, 2);
        mesh.link(0, 2, 2);
        mesh.link(1, 2, 1);
        mesh.run(500);
        Check.same("kept", mesh.told(1, 2, 0, 1), 2);
        Check.same("not good: not below the bound", mesh.told(1, 2, 0, 2), 0);
        mesh.link(0, 2, 1);
        mesh.run(500);
        Check.same("good: below the bound", mesh.told(1, 2, 0, 2), 1);
        Check.same("not nearer, so not chosen", Check.way(mesh, 1, 0), "[0, 0, 2, 0, 2]");
        mesh.link(0, 1, 0);
        Check.same("chosen when the other goes", Check.way(mesh, 1, 0), "[2, 0, 2, 0, 2]");
    }

    private static void keepsTheChosenOneOnATie() {
        BabelMesh mesh = new BabelMesh();
        for (int middle = 1; middle <= 3; middle++) {
            mesh.link(0, middle, 2);
            mesh.link(middle, 4, 4 - middle);
        }
        mesh.run(500);
        Check.same("the least metric", mesh.way(4, 0, 0), 3);
        mesh.link(1, 4, 1);
        mesh.link(2, 4, 1);
        Check.same("of several the one that was chosen", mesh.way(4, 0, 0), 3);
        mesh.run(500);
        mesh.link(3, 4, 2);
        Check.same("otherwise the least", mesh.way(4, 0, 0), 1);
        mesh.run(500);
        mesh.link(3, 4, 1);
        Check.same("a greater one on a tie is not taken", mesh.way(4, 0, 0), 1);
        for (int i = 0; i < mesh.total(0); i++) {
            Check.yes("nor does 4 tell of it", mesh.letter(i, 1) != 4 || mesh.letter(i, 3) != 0);
        }
    }

    private static void worseWordOfTheChosenOne() {
        BabelMesh mesh = new BabelMesh();
        mesh.link(0, 1, 2);
        mesh.link(1, 2, 2);
        mesh.run(500);
        mesh.link(0, 1, 3);
        mesh.run(500);
        Check.same("worse, but below the bound: kept", Check.way(mesh, 2, 0), "[1, 0, 5, 0, 4]");
        mesh.link(0, 1, 4);
        mesh.run(500);
        Check.same("not good: not kept", mesh.told(2, 1, 0, 1), 3);
        Check.same("the way stays", Check.way(mesh, 2, 0), "[1, 0, 5, 0, 4]");
        mesh.renew(0);
        mesh.run(500);
        Check.same("good by its newer number", Check.way(mesh, 2, 0), "[1, 1, 6, 1, 6]");
    }

    private static void newerNumber() {
        BabelMesh mesh = new BabelMesh();
        mesh.link(0, 1, 2);
        mesh.link(1, 2, 2);
        mesh.link(0, 2, 50);
        mesh.run(500);
        mesh.renew(0);
        Check.same("far but newer: 0 to 2", mesh.deliver(1), 0);
        Check.same("kept and good, yet not the least metric", mesh.told(2, 0, 0, 2), 1);
        Check.same("least metric wins over newer number", Check.way(mesh, 2, 0), "[1, 0, 4, 0, 4]");
        mesh.link(1, 2, 0);
        Check.same("the newer one is taken at last", Check.way(mesh, 2, 0), "[0, 1, 50, 1, 50]");
        while (mesh.total(0) > 0) {
            mesh.drop(0);
        }
        mesh.link(1, 2, 1);
        Check.same("1 has not heard of it", Check.letter(mesh, 0), "[1, 1, 2, 0, 0, 2]");
        mesh.deliver(0);
        Check.same("an older number is kept", mesh.told(2, 1, 0, 0), 0);
        Check.same("an older number is not good", mesh.told(2, 1, 0, 2), 0);
        Check.same("and not chosen", Check.way(mesh, 2, 0), "[0, 1, 50, 1, 50]");
    }

    private static void lostWay() {
        BabelMesh mesh = new BabelMesh();
        mesh.link(0, 1, 1);
        mesh.link(1, 2, 1);
        mesh.link(2, 3, 1);
        mesh.run(500);
        mesh.link(0, 1, 0);
        Check.same("FAR of the chosen one: two tellings, two requests", mesh.deliver(0), 4);
        Check.same("kept", mesh.told(2, 1, 0, 1), 65535);
        Check.same("FAR is not good", mesh.told(2, 1, 0, 2), 0);
        Check.same("no way", Check.way(mesh, 2, 0), "[-1, -1, -1, 0, 2]");
        Check.letters("tellings, and the requests behind them", mesh, "[2, 1, 2, 0, 1, 8]",
                "[1, 2, 1, 0, 0, 65535]", "[1, 2, 3, 0, 0, 65535]", "[2, 2, 1, 0, 1, 8]", "[2, 2, 3, 0, 1, 8]");
        mesh.deliver(1);
        Check.same("it had no way before: nothing is sent", mesh.total(0), 4);
    }

    /** 0 comes to know an older and a newer word of itself: both are nothing. */
    private static void tellingOfItself() {
        BabelMesh mesh = new BabelMesh();
        mesh.link(0, 1, 5);
        mesh.run(2);
        mesh.renew(0);
        Check.letters("1's words of 0, and 0's of 1", mesh,
                "[1, 1, 0, 0, 0, 5]", "[1, 0, 1, 1, 0, 5]", "[1, 0, 1, 0, 1, 0]");
        Check.same("0 hears of itself", mesh.deliver(0), 0);
        Check.same("1 hears of itself", mesh.deliver(0), 0);
        Check.same("0 is as it was", Check.way(mesh, 0, 0), "[0, 1, 0, -1, -1]");
        Check.same("1 is as it was", Check.way(mesh, 1, 1), "[1, 0, 0, -1, -1]");
    }

    private static void announcesNothingKnown() {
        BabelMesh mesh = new BabelMesh();
        mesh.link(11, 0, 2);
        Check.dropAll(mesh);
        Check.same("itself alone", mesh.announce(11), 1);
        Check.same("itself alone", mesh.announce(0), 1);
        Check.letters("told", mesh, "[1, 11, 0, 11, 0, 0]", "[1, 0, 11, 0, 0, 0]");
        Check.unchanged("without links", BabelMesh::new, none -> none.announce(5));
    }
}
