/** Promise 5 (ask), and what a request does that is handed over. */
public final class RequestTest {
    public static void main(String[] args) {
        asks();
        asksForOneMoreThanTheBound();
        atTheDestination();
        atANodeWithAWay();
        atANodeWithAnOlderWay();
        passedOnOnce();
        ownAskingDoesNotCount();
        stepsEnd();
        heals();
        wrongInputs();
        Check.end("RequestTest");
    }

    private static void asks() {
        BabelMesh mesh = new BabelMesh();
        Check.same("without links", mesh.ask(0, 1), 0);
        mesh.link(3, 5, 1);
        mesh.link(3, 1, 1);
        mesh.run(500);
        Check.same("two neighbours", mesh.ask(3, 9), 2);
        Check.letters("number 0 without a bound, 8 steps, in order", mesh,
                "[2, 3, 1, 9, 0, 8]", "[2, 3, 5, 9, 0, 8]");
        Check.same("with a way it asks nothing", mesh.ask(3, 5), 0);
        Check.same("no letter", mesh.total(0), 2);
    }

    private static void asksForOneMoreThanTheBound() {
        BabelMesh mesh = new BabelMesh();
        mesh.renew(0);
        mesh.renew(0);
        mesh.link(0, 1, 1);
        mesh.link(1, 2, 1);
        mesh.run(500);
        mesh.link(0, 1, 0);
        Check.letters("the bound's number with FAR, one more in the request", mesh,
                "[1, 1, 2, 0, 2, 65535]", "[2, 1, 2, 0, 3, 8]");
        mesh.run(500);
        Check.same("one neighbour", mesh.ask(1, 0), 1);
        Check.letters("one more than the bound's", mesh, "[2, 1, 2, 0, 3, 8]");
    }

    private static void atTheDestination() {
        BabelMesh mesh = twoWithAskingThird();
        Check.same("it tells itself to all", mesh.deliver(0), 2);
        Check.same("the number is not newer: stays", mesh.way(0, 0, 1), 0);
        Check.letters("its own number and 0", mesh, "[1, 0, 1, 0, 0, 0]", "[1, 0, 2, 0, 0, 0]");

        BabelMesh newer = new BabelMesh();
        newer.link(0, 1, 1);
        newer.run(500);
        newer.link(0, 1, 0);
        newer.run(500);
        newer.link(0, 1, 1);
        newer.ask(1, 0);
        newer.copy(2);
        Check.same("the request", Check.letter(newer, 2), "[2, 1, 0, 0, 1, 8]");
        Check.same("newer: one more", newer.deliver(2), 1);
        Check.same("own number", newer.way(0, 0, 1), 1);
        Check.same("doubled: told once more", newer.deliver(2), 1);
        Check.same("doubled: the number stays", newer.way(0, 0, 1), 1);
    }

    /** 0 has the neighbours 1 and 2; only the request of 2 for 0, number 0, lies in the row. */
    private static BabelMesh twoWithAskingThird() {
        BabelMesh mesh = new BabelMesh();
        mesh.link(0, 1, 1);
        mesh.run(500);
        mesh.link(0, 2, 1);
        mesh.ask(2, 0);
        while (mesh.letter(0, 0) == 1) {
            mesh.drop(0);
        }
        return mesh;
    }

    private static void atANodeWithAWay() {
        BabelMesh mesh = new BabelMesh();
        mesh.link(0, 1, 4);
        mesh.run(500);
        mesh.link(1, 2, 1);
        mesh.link(1, 3, 1);
        mesh.ask(2, 0);
        int last = mesh.total(0) - 1;
        Check.same("the request", Check.letter(mesh, last), "[2, 2, 1, 0, 0, 8]");
        Check.same("told to the one that asked", mesh.deliver(last), 1);
        Check.same("the telling", Check.letter(mesh, mesh.total(0) - 1), "[1, 1, 2, 0, 0, 4]");
    }

    private static void atANodeWithAnOlderWay() {
        BabelMesh mesh = new BabelMesh();
        mesh.link(0, 1, 1);
        mesh.link(1, 2, 1);
        mesh.link(2, 3, 1);
        mesh.run(500);
        mesh.link(2, 3, 0);
        mesh.run(500);
        mesh.link(2, 3, 1);
        while (mesh.total(0) > 0) {
            mesh.drop(0);
        }
        mesh.ask(3, 0);
        Check.letters("for a newer number than any way has", mesh, "[2, 3, 2, 0, 1, 8]");
        mesh.run(1);
        Check.letters("passed on, with a step less, not back", mesh, "[2, 2, 1, 0, 1, 7]");
        mesh.run(1);
        Check.letters("and on", mesh, "[2, 1, 0, 0, 1, 6]");
        mesh.run(1);
        Check.letters("the destination is one more", mesh, "[1, 0, 1, 0, 1, 0]");
        mesh.run(500);
        Check.same("and all hear of it", Check.way(mesh, 3, 0), "[2, 1, 3, 1, 3]");
    }

    private static void passedOnOnce() {
        BabelMesh mesh = lineWithAskingEnd();
        mesh.copy(0);
        Check.same("passed on to the others", mesh.deliver(0), 1);
        Check.same("not a second time", mesh.deliver(0), 0);
        mesh.run(500);
        mesh.ask(0, 9);
        Check.same("nor the same number asked again", mesh.deliver(0), 0);
        mesh.link(9, 11, 1);
        mesh.renew(9);
        mesh.run(500);
        Check.same("nobody knows 9", mesh.way(2, 9, 0), -1);

        newerAndOlderOnes();
    }

    /** 0 - 1 - 2, all letters handed over but for 0's request for 9. */
    private static BabelMesh lineWithAskingEnd() {
        BabelMesh mesh = new BabelMesh();
        mesh.link(0, 1, 1);
        mesh.link(1, 2, 1);
        mesh.run(500);
        mesh.ask(0, 9);
        return mesh;
    }

    /** 3 loses 0 again and again, each time with a newer bound, while 2 has no way to it. */
    private static void newerAndOlderOnes() {
        BabelMesh mesh = new BabelMesh();
        mesh.link(0, 3, 1);
        mesh.link(2, 3, 1);
        mesh.link(1, 2, 1);
        mesh.run(500);
        mesh.link(0, 3, 0);
        Check.same("request for 1", Check.letter(mesh, 1), "[2, 3, 2, 0, 1, 8]");
        mesh.deliver(0);
        mesh.copy(0);
        Check.same("1 is passed on", mesh.deliver(0), 1);
        int old = mesh.total(0) - 2;
        Check.same("the copy", Check.letter(mesh, old), "[2, 3, 2, 0, 1, 8]");
        for (int i = old - 1; i >= 0; i--) {
            mesh.drop(i);
        }
        mesh.renew(0);
        mesh.link(0, 3, 1);
        Check.same("0 tells 3", Check.letter(mesh, 2), "[1, 0, 3, 0, 1, 0]");
        mesh.deliver(2);
        mesh.link(0, 3, 0);
        int request = mesh.total(0) - 1;
        Check.same("request for 2", Check.letter(mesh, request), "[2, 3, 2, 0, 2, 8]");
        Check.same("a newer one is passed on", mesh.deliver(request), 1);
        Check.same("the old copy", Check.letter(mesh, 0), "[2, 3, 2, 0, 1, 8]");
        Check.same("an older one is not", mesh.deliver(0), 0);
    }

    private static void ownAskingDoesNotCount() {
        BabelMesh mesh = lineWithAskingEnd();
        mesh.ask(1, 9);
        Check.same("1 asked for 9 itself, yet passes it on", mesh.deliver(0), 1);
        Check.same("to 2, with 7 steps", Check.letter(mesh, mesh.total(0) - 1), "[2, 1, 2, 9, 0, 7]");
    }

    private static void stepsEnd() {
        BabelMesh mesh = new BabelMesh();
        for (int node = 0; node < 9; node++) {
            mesh.link(node, node + 1, 1);
            mesh.run(500);
        }
        while (mesh.total(0) > 0) {
            mesh.run(500);
        }
        mesh.ask(0, 11);
        Check.same("eight letters", mesh.run(7), 7);
        Check.letters("the last one has 1 step", mesh, "[2, 7, 8, 11, 0, 1]");
        Check.same("it is not passed on", mesh.deliver(0), 0);
    }

    /** The lost way is found again by a newer number, though it is longer than the bound. */
    private static void heals() {
        BabelMesh mesh = new BabelMesh();
        mesh.link(0, 1, 1);
        mesh.link(1, 2, 1);
        mesh.link(2, 3, 1);
        mesh.link(3, 0, 100);
        mesh.run(500);
        Check.same("the near way", mesh.trace(3, 0), 3);
        mesh.link(0, 1, 0);
        mesh.run(500);
        Check.same("all is handed over", mesh.total(0), 0);
        Check.same("newer number", mesh.way(0, 0, 1), 1);
        Check.same("the far way", Check.way(mesh, 1, 0), "[2, 1, 102, 1, 102]");
        Check.same("steps", mesh.trace(1, 0), 3);
    }

    private static void wrongInputs() {
        BabelMesh mesh = new BabelMesh();
        BabelMesh twin = new BabelMesh();
        for (BabelMesh each : new BabelMesh[] {mesh, twin}) {
            each.link(0, 1, 5);
            each.run(500);
        }
        Check.refuses("for itself", () -> mesh.ask(1, 1));
        Check.refuses("node -1", () -> mesh.ask(-1, 1));
        Check.refuses("node 12", () -> mesh.ask(12, 1));
        Check.refuses("destination -1", () -> mesh.ask(1, -1));
        Check.refuses("destination 12", () -> mesh.ask(1, 12));
        Check.same("nothing changed", Check.view(mesh, 3), Check.view(twin, 3));
    }
}
