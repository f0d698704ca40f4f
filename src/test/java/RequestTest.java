/** Promise 5 (ask), and what a request does that is handed over. */
public final class RequestTest {
    public static void main(String[] args) {
        asks();
        asksForOneMoreThanTheBound();
        atTheDestination();
        atANodeWithAWay();
        atANodeWithAnOlderWay();
        passedOnOnce();
        ownAskingDoesNotCount();
        stepsEnd();
        oneStepIsNotPassedOn();
        eightStepsAndNoMore();
        atADestinationOfAnotherNumber();
        atANodeWithANewerWay();
        passedOnForEachDestination();
        passedOnForEachNode();
        passedOnWhoeverAsks();
        answeredIsNotPassedOn();
        passedOnThoughLost();
        nobodyElseToPassItOnTo();
        asksNothingWithAWay();
        heals();
        Check.end("RequestTest");
    }

    private static void asks() {
        BabelMesh mesh = new BabelMesh();
        Check.same("without links", mesh.ask(0, 1), 0);
        mesh.link(3, 5, 1);
        mesh.link(3, 1, 1);
        mesh.run(500);
        Check.same("two neighbours", mesh.ask(3, 9), 2);
        Check.letters("number 0 without a bound, 8 steps, in order", mesh,
                "[2, 3, 1, 9, 0, 8]", "[2, 3, 5, 9, 0, 8]");
        Check.same("with a way it asks nothing", mesh.ask(3, 5), 0);
        Check.same("no letter", mesh.total(0), 2);
    }

    private static void asksForOneMoreThanTheBound() {
        BabelMesh mesh = new BabelMesh();
        mesh.renew(0);
        mesh.renew(0);
        mesh.link(0, 1, 1);
        mesh.link(1, 2, 1);
        mesh.run(500);
        mesh.link(0, 1, 0);
        Check.letters("the bound's number with FAR, one more in the request", mesh,
                "[1, 1, 2, 0, 2, 65535]", "[2, 1, 2, 0, 3, 8]");
        mesh.run(500);
        Check.same("one neighbour", mesh.ask(1, 0), 1);
        Check.letters("one more than the bound's", mesh, "[2, 1, 2, 0, 3, 8]");
    }

    private static void atTheDestination() {
        BabelMesh mesh = twoWithAskingThird();
        Check.same("it tells itself to all", mesh.deliver(0), 2);
        Check.same("the number is not newer: stays", mesh.way(0, 0, 1), 0);
        Check.letters("its own number and 0", mesh, "[1, 0, 1, 0, 0, 0]", "[1, 0, 2, 0, 0, 0]");

        BabelMesh newer = new BabelMesh();
        newer.link(0, 1, 1);
        newer.run(500);
        newer.link(0, 1, 0);
        newer.run(500);
        newer.link(0, 1, 1);
        newer.ask(1, 0);
        newer.copy(2);
        Check.same("the request", Check.letter(newer, 2), "[2, 1, 0, 0, 1, 8]");
        Check.same("newer: one more", newer.deliver(2), 1);
        Check.same("own number", newer.way(0, 0, 1), 1);
        Check.same("doubled: told once more", newer.deliver(2), 1);
        Check.same("doubled: the number stays", newer.way(0, 0, 1), 1);
    }

    /** 0 has the neighbours 1 and 2; only the request of 2 for 0, number 0, lies in the row. */
    private static BabelMesh twoWithAskingThird() {
        BabelMesh mesh = new BabelMesh();
        mesh.link(0, 1, 1);
        mesh.run(500);
        mesh.link(0, 2, 1);
        mesh.ask(2, 0);
        while (mesh.letter(0, 0) == 1) {
            mesh.drop(0);
        }
        return mesh;
    }

    private static void atANodeWithAWay() {
        BabelMesh mesh = new BabelMesh();
        mesh.link(0, 1, 4);
        mesh.run(500);
        mesh.link(1, 2, 1);
        mesh.link(1, 3, 1);
        mesh.ask(2, 0);
        int last = mesh.total(0) - 1;
        Check.same("the request", Check.letter(mesh, last), "[2, 2, 1, 0, 0, 8]");
        Check.same("told to the one that asked", mesh.deliver(last), 1);
        Check.same("the telling", Check.letter(mesh, mesh.total(0) - 1), "[1, 1, 2, 0, 0, 4]");
    }

    private static void atANodeWithAnOlderWay() {
        BabelMesh mesh = new BabelMesh();
        mesh.link(0, 1, 1);
        mesh.link(1, 2, 1);
        mesh.link(2, 3, 1);
        mesh.run(500);
        mesh.link(2, 3, 0);
        mesh.run(500);
        mesh.link(2, 3, 1);
        while (mesh.total(0) > 0) {
            mesh.drop(0);
        }
        mesh.ask(3, 0);
        Check.letters("for a newer number than any way has", mesh, "[2, 3, 2, 0, 1, 8]");
        mesh.run(1);
        Check.letters("passed on, with a step less, not back", mesh, "[2, 2, 1, 0, 1, 7]");
        mesh.run(1);
        Check.letters("and on", mesh, "[2, 1, 0, 0, 1, 6]");
        mesh.run(1);
        Check.letters("the destination is one more", mesh, "[1, 0, 1, 0, 1, 0]");
        mesh.run(500);
        Check.same("and all hear of it", Check.way(mesh, 3, 0), "[2, 1, 3, 1, 3]");
    }

    private static void passedOnOnce() {
        BabelMesh mesh = lineWithAskingEnd();
        mesh.copy(0);
        Check.same("passed on to the others", mesh.deliver(0), 1);
        Check.same("not a second time", mesh.deliver(0), 0);
        mesh.run(500);
        mesh.ask(0, 9);
        Check.same("nor the same number asked again", mesh.deliver(0), 0);
        mesh.link(9, 11, 1);
        mesh.renew(9);
        mesh.run(500);
        Check.same("nobody knows 9", mesh.way(2, 9, 0), -1);

        newerAndOlderOnes();
    }

    /** 0 - 1 - 2, all letters handed over but for 0's request for 9. */
    private static BabelMesh lineWithAskingEnd() {
        BabelMesh mesh = new BabelMesh();
        mesh.link(0, 1, 1);
        mesh.link(1, 2, 1);
        mesh.run(500);
        mesh.ask(0, 9);
        return mesh;
    }

    /** 3 loses 0 again and again, each time with a newer bound, while 2 has no way to it. */
    private static void newerAndOlderOnes() {
        BabelMesh mesh = new BabelMesh();
        mesh.link(0, 3, 1);
        mesh.link(2, 3, 1);
        mesh.link(1, 2, 1);
        mesh.run(500);
        mesh.link(0, 3, 0);
        Check.same("request for 1", Check.letter(mesh, 1), "[2, 3, 2, 0, 1, 8]");
        mesh.deliver(0);
        mesh.copy(0);
        Check.same("1 is passed on", mesh.deliver(0), 1);
        int old = mesh.total(0) - 2;
        Check.same("the copy", Check.letter(mesh, old), "[2, 3, 2, 0, 1, 8]");
        for (int i = old - 1; i >= 0; i--) {
            mesh.drop(i);
        }
        mesh.renew(0);
        mesh.link(0, 3, 1);
        Check.same("0 tells 3", Check.letter(mesh, 2), "[1, 0, 3, 0, 1, 0]");
        mesh.deliver(2);
        mesh.link(0, 3, 0);
        int request = mesh.total(0) - 1;
        Check.same("request for 2", Check.letter(mesh, request), "[2, 3, 2, 0, 2, 8]");
        Check.same("a newer one is passed on", mesh.deliver(request), 1);
        Check.same("the old copy", Check.letter(mesh, 0), "[2, 3, 2, 0, 1, 8]");
        Check.same("an older one is not", mesh.deliver(0), 0);
    }

    private static void ownAskingDoesNotCount() {
        BabelMesh mesh = lineWithAskingEnd();
        mesh.ask(1, 9);
        Check.same("1 asked for 9 itself, yet passes it on", mesh.deliver(0), 1);
        Check.same("to 2, with 7 steps", Check.letter(mesh, mesh.total(0) - 1), "[2, 1, 2, 9, 0, 7]");
    }

    private static void stepsEnd() {
        BabelMesh mesh = new BabelMesh();
        for (int node = 0; node < 9; node++) {
            mesh.link(node, node + 1, 1);
            mesh.run(500);
        }
        while (mesh.total(0) > 0) {
            mesh.run(500);
        }
        mesh.ask(0, 11);
        Check.same("eight letters", mesh.run(7), 7);
        Check.letters("the last one has 1 step", mesh, "[2, 7, 8, 11, 0, 1]");
        Check.same("it is not passed on", mesh.deliver(0), 0);
    }

    /** The lost way is found again by a newer number, though it is longer than the bound. */
    private static void heals() {
        BabelMesh mesh = new BabelMesh();
        mesh.link(0, 1, 1);
        mesh.link(1, 2, 1);
        mesh.link(2, 3, 1);
        mesh.link(3, 0, 100);
        mesh.run(500);
        Check.same("the near way", mesh.trace(3, 0), 3);
        mesh.link(0, 1, 0);
        mesh.run(500);
        Check.same("all is handed over", mesh.total(0), 0);
        Check.same("newer number", mesh.way(0, 0, 1), 1);
        Check.same("the far way", Check.way(mesh, 1, 0), "[2, 1, 102, 1, 102]");
        Check.same("steps", mesh.trace(1, 0), 3);
    }

    /** Linked nodes 0 .. last that know nothing of each other. */
    private static BabelMesh deafLine(int last) {
        BabelMesh mesh = new BabelMesh();
        for (int node = 0; node < last; node++) {
            mesh.link(node, node + 1, 1);
        }
        Check.dropAll(mesh);
        return mesh;
    }

    private static void oneStepIsNotPassedOn() {
        BabelMesh mesh = deafLine(9);
        mesh.ask(0, 11);
        mesh.run(6);
        Check.letters("2 steps", mesh, "[2, 6, 7, 11, 0, 2]");
        Check.same("more than 1: passed on", mesh.deliver(0), 1);
        Check.letters("1 step", mesh, "[2, 7, 8, 11, 0, 1]");
        Check.same("not more than 1: not passed on", mesh.deliver(0), 0);
        mesh.ask(9, 11);
        Check.letters("the same number, with 8 steps", mesh, "[2, 9, 8, 11, 0, 8]");
        Check.same("8 has not passed it on yet", mesh.deliver(0), 1);
        Check.letters("now it does", mesh, "[2, 8, 7, 11, 0, 7]");
        Check.same("7 has", mesh.deliver(0), 0);
    }

    private static void eightStepsAndNoMore() {
        BabelMesh near = deafLine(9);
        near.ask(0, 8);
        Check.same("seven are passed on", near.run(7), 7);
        Check.letters("the eighth reaches it", near, "[2, 7, 8, 8, 0, 1]");
        Check.same("and is answered, with 1 step too", near.deliver(0), 2);
        Check.letters("to all neighbours", near, "[1, 8, 7, 8, 0, 0]", "[1, 8, 9, 8, 0, 0]");
        BabelMesh far = deafLine(9);
        far.ask(0, 9);
        Check.same("eight letters, and no ninth", far.run(500), 8);
        Check.same("nobody heard of it", far.total(1), 18 + 8);
    }

    private static void atADestinationOfAnotherNumber() {
        BabelMesh older = deafLine(1);
        older.renew(0);
        Check.dropAll(older);
        older.ask(1, 0);
        Check.letters("for 0", older, "[2, 1, 0, 0, 0, 8]");
        Check.same("answered", older.deliver(0), 1);
        Check.same("older than its own: that stays", older.way(0, 0, 1), 1);
        Check.letters("told", older, "[1, 0, 1, 0, 1, 0]");
    }

    /** 1 has a way to 0 with that number; 2 asks it for 0, the number it asks for without a bound. */
    private static void atANodeWithANewerWay() {
        BabelMesh mesh = new BabelMesh();
        mesh.renew(0);
        mesh.link(0, 1, 4);
        mesh.run(500);
        mesh.link(1, 2, 1);
        mesh.link(1, 3, 1);
        Check.dropAll(mesh);
        mesh.ask(2, 0);
        Check.letters("for 0", mesh, "[2, 2, 1, 0, 0, 8]");
        mesh.deliver(0);
        Check.letters("told to the one that asked alone", mesh, "[1, 1, 2, 0, 1, 4]");
    }

    private static void passedOnForEachDestination() {
        BabelMesh mesh = lineWithAskingEnd();
        Check.same("9 is asked for", mesh.deliver(0), 1);
        Check.dropAll(mesh);
        mesh.ask(0, 10);
        Check.same("10 as well, by the same number", mesh.deliver(0), 1);
        Check.letters("passed on", mesh, "[2, 1, 2, 10, 0, 7]");
    }

    private static void passedOnForEachNode() {
        BabelMesh mesh = deafLine(3);
        mesh.ask(0, 9);
        Check.same("1 passes it on", mesh.deliver(0), 1);
        Check.same("so does 2", mesh.deliver(0), 1);
        Check.letters("3 hears of it", mesh, "[2, 2, 3, 9, 0, 6]");
    }

    private static void passedOnWhoeverAsks() {
        BabelMesh mesh = lineWithAskingEnd();
        Check.same("0 asks", mesh.deliver(0), 1);
        Check.dropAll(mesh);
        mesh.ask(2, 9);
        Check.letters("2 asks for the same", mesh, "[2, 2, 1, 9, 0, 8]");
        Check.same("not passed on again", mesh.deliver(0), 0);
    }

    /** 1 has a way to 0 and tells it when 2 asks; when it has none the same request goes on. */
    private static void answeredIsNotPassedOn() {
        BabelMesh mesh = new BabelMesh();
        mesh.link(0, 1, 4);
        mesh.run(500);
        mesh.link(1, 2, 1);
        mesh.link(1, 3, 1);
        Check.dropAll(mesh);
        mesh.ask(2, 0);
        mesh.copy(0);
        mesh.deliver(0);
        Check.same("answered", Check.letter(mesh, 1), "[1, 1, 2, 0, 0, 4]");
        mesh.link(0, 1, 0);
        int before = mesh.total(0);
        Check.same("passed on", mesh.deliver(0), 1);
        Check.same("to the other one", Check.letter(mesh, before - 1), "[2, 1, 3, 0, 0, 7]");
    }

    /** 3 passes a request on to 0 and 5, with room for one of both. */
    private static void passedOnThoughLost() {
        BabelMesh mesh = RowTest.full();
        for (int i = 0; i < 4; i++) {
            mesh.drop(0);
        }
        for (int neighbour = 4; neighbour <= 5; neighbour++) {
            mesh.link(3, neighbour, 1);
            mesh.drop(297);
            mesh.drop(296);
        }
        mesh.ask(4, 9);
        mesh.drop(296);
        Check.same("4 asks 3", Check.letter(mesh, 296), "[2, 4, 3, 9, 0, 8]");
        for (int i = 0; i < 3; i++) {
            mesh.copy(296);
        }
        Check.same("full", mesh.total(0), 300);
        Check.same("lost ones count", mesh.deliver(296), 2);
        Check.same("the one found room", Check.letter(mesh, 299), "[2, 3, 0, 9, 0, 7]");
        Check.same("the other one did not", mesh.total(2), 1);
        Check.same("not a second time", mesh.deliver(296), 0);
    }

    /** The document does not tell: 1 passes it on to all neighbours but 0, who are none. */
    private static void nobodyElseToPassItOnTo() {
        BabelMesh mesh = deafLine(1);
        mesh.ask(0, 9);
        mesh.copy(0);
        Check.same("to none", mesh.deliver(0), 0);
        mesh.link(1, 2, 1);
        Check.same("passed on it is", mesh.deliver(0), 0);
    }

    private static void asksNothingWithAWay() {
        Check.unchanged("ask() with a way", RequestTest::lineWithAskingEnd, mesh -> mesh.ask(0, 2));
        Check.unchanged("ask() without links", RequestTest::lineWithAskingEnd, mesh -> mesh.ask(5, 2));
        BabelMesh mesh = lineWithAskingEnd();
        Check.same("with a way", mesh.ask(0, 2), 0);
        Check.same("without one", mesh.ask(0, 3), 1);
        Check.same("without links", mesh.ask(5, 2), 0);
    }
}
