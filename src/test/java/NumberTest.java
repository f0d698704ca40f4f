/**
 * "NUMBERS are 0 .. 65535; a is NEWER than b if (a - b) modulo 65536 is 1 .. 32767", and each place
 * where the document says "modulo 65536".
 *
 * A number climbs so far only by many thousand calls of renew(), more than the 512 for which the
 * document promises anything. The class answers them like the first ones, and there is no shorter
 * way to the edges.
 */
public final class NumberTest {
    public static void main(String[] args) {
        firstNumber();
        renewWraps();
        newerThanTheBound();
        boundBecomesTheNewer();
        lostWayAsksForZero();
        askAsksForZero();
        destinationIsOneMore();
        wayThatIsNotOlder();
        passedOn();
        Check.end("NumberTest");
    }

    private static void renewTimes(BabelMesh mesh, int node, int times) {
        for (int i = 0; i < times; i++) {
            mesh.renew(node);
        }
    }

    /** 0 has no links, and the number. */
    private static BabelMesh numbered(int number) {
        BabelMesh mesh = new BabelMesh();
        renewTimes(mesh, 0, number);
        return mesh;
    }

    private static void firstNumber() {
        BabelMesh mesh = new BabelMesh();
        for (int node = 0; node < 12; node++) {
            Check.same("own number at first", mesh.way(node, node, 1), 0);
        }
        Check.same("1 more", mesh.renew(11), 1);
    }

    private static void renewWraps() {
        BabelMesh mesh = numbered(65534);
        Check.same("the greatest number", mesh.renew(0), 65535);
        Check.same("own number", mesh.way(0, 0, 1), 65535);
        mesh.link(0, 1, 4);
        Check.letters("told", mesh, "[1, 0, 1, 0, 65535, 0]", "[1, 1, 0, 1, 0, 0]");
        mesh.run(500);
        Check.same("a number like others", Check.way(mesh, 1, 0), "[0, 65535, 4, 65535, 4]");
        Check.same("1 more is 0", mesh.renew(0), 0);
        Check.same("own number", mesh.way(0, 0, 1), 0);
        Check.letters("told", mesh, "[1, 0, 1, 0, 0, 0]");
        mesh.run(500);
        Check.same("0 is newer than 65535", Check.way(mesh, 1, 0), "[0, 0, 4, 0, 4]");
        Check.same("and on", mesh.renew(0), 1);
    }

    /** 1 has a bound with the one number, and is told the other one with a metric below it. */
    private static void newerThanTheBound() {
        newer(0, 1, true);
        newer(0, 32766, true);
        newer(0, 32767, true);
        newer(0, 32768, false);
        newer(0, 32769, false);
        newer(0, 65535, false);
        newer(1, 0, false);
        newer(1, 32768, true);
        newer(1, 32769, false);
        newer(40000, 40001, true);
        newer(40000, 7231, true);
        newer(40000, 7232, false);
        newer(40000, 39999, false);
        newer(65535, 0, true);
        newer(65535, 32766, true);
        newer(65535, 32767, false);
        newer(65535, 65534, false);
    }

    private static void newer(int bound, int told, boolean due) {
        String what = told + " is newer than " + bound;
        BabelMesh mesh = boundAndTold(bound, told, 5, 9);
        Check.same(what + ": kept", mesh.told(1, 0, 0, 0), told);
        Check.same(what + ": good", mesh.told(1, 0, 0, 2), due ? 1 : 0);
        Check.same(what, mesh.way(1, 0, 0), due ? 0 : BabelMesh.NONE);
    }

    /** A way of that number and first cost, then none; then the link with the other number and cost. */
    private static BabelMesh boundAndTold(int bound, int told, int firstCost, int cost) {
        BabelMesh mesh = numbered(bound);
        mesh.link(0, 1, firstCost);
        mesh.run(500);
        mesh.link(0, 1, 0);
        Check.same("the bound", Check.way(mesh, 1, 0), "[-1, -1, -1, " + bound + ", " + firstCost + "]");
        renewTimes(mesh, 0, (told - bound + 65536) % 65536);
        mesh.link(0, 1, cost);
        mesh.deliver(0);
        return mesh;
    }

    private static void boundBecomesTheNewer() {
        Check.same("newer, and farther", Check.way(boundAndTold(0, 32767, 5, 9), 1, 0), "[0, 32767, 9, 32767, 9]");
        Check.same("newer by the wrap", Check.way(boundAndTold(65535, 0, 5, 9), 1, 0), "[0, 0, 9, 0, 9]");
        Check.same("half way round: stays", Check.way(boundAndTold(0, 32768, 5, 9), 1, 0), "[-1, -1, -1, 0, 5]");
        Check.same("the same number, and farther", Check.way(boundAndTold(7, 7, 5, 9), 1, 0), "[0, 7, 9, 7, 5]");
    }

    /** 0 - 1 - 2, and 1 loses its way to 0. */
    private static BabelMesh lostWay(int number) {
        BabelMesh mesh = numbered(number);
        mesh.link(0, 1, 1);
        mesh.link(1, 2, 1);
        mesh.run(500);
        mesh.link(0, 1, 0);
        return mesh;
    }

    private static void lostWayAsksForZero() {
        Check.letters("one below the greatest", lostWay(65534),
                "[1, 1, 2, 0, 65534, 65535]", "[2, 1, 2, 0, 65535, 8]");
        Check.letters("the greatest", lostWay(65535),
                "[1, 1, 2, 0, 65535, 65535]", "[2, 1, 2, 0, 0, 8]");
    }

    private static void askAsksForZero() {
        for (int number : new int[] {65534, 65535}) {
            BabelMesh mesh = lostWay(number);
            mesh.run(500);
            Check.same("one letter", mesh.ask(1, 0), 1);
            Check.letters("ask() behind the bound's " + number, mesh,
                    "[2, 1, 2, 0, " + (number == 65534 ? 65535 : 0) + ", 8]");
        }
    }

    /** 1 has no bound, so it asks for the number 0. */
    private static void destinationIsOneMore() {
        ownAfterRequest(0, 0);
        ownAfterRequest(1, 1);
        ownAfterRequest(32767, 32767);
        ownAfterRequest(32768, 32768);
        ownAfterRequest(32769, 32770);
        ownAfterRequest(65534, 65535);
        ownAfterRequest(65535, 0);
    }

    private static void ownAfterRequest(int own, int due) {
        BabelMesh mesh = numbered(own);
        mesh.link(0, 1, 1);
        Check.dropAll(mesh);
        mesh.ask(1, 0);
        Check.letters("the request", mesh, "[2, 1, 0, 0, 0, 8]");
        Check.same("it tells itself", mesh.deliver(0), 1);
        Check.same("a request for 0 at " + own, mesh.way(0, 0, 1), due);
        Check.letters("it tells the number", mesh, "[1, 0, 1, 0, " + due + ", 0]");
    }

    /** 1 has a way to 0 and another neighbour, 3; 2, without a bound, asks it for the number 0. */
    private static void wayThatIsNotOlder() {
        for (int number : new int[] {0, 1, 32767, 32768}) {
            BabelMesh mesh = askedOf(number);
            Check.letters("a way with " + number + " is not older than 0", mesh,
                    "[1, 1, 2, 0, " + number + ", 1]");
        }
        for (int number : new int[] {32769, 65534, 65535}) {
            BabelMesh mesh = askedOf(number);
            Check.letters("a way with " + number + " is older than 0", mesh,
                    "[2, 1, 0, 0, 0, 7]", "[2, 1, 3, 0, 0, 7]");
        }
    }

    private static BabelMesh askedOf(int number) {
        BabelMesh mesh = numbered(number);
        mesh.link(0, 1, 1);
        mesh.link(1, 2, 1);
        mesh.link(1, 3, 1);
        mesh.deliver(0);
        Check.same("the way", mesh.way(1, 0, 1), number);
        Check.dropAll(mesh);
        mesh.ask(2, 0);
        mesh.deliver(0);
        return mesh;
    }

    /** 3 asks 2 for 65535, and later for 0, which is newer. */
    private static void passedOn() {
        BabelMesh mesh = numbered(65534);
        mesh.link(2, 3, 1);
        mesh.link(1, 2, 1);
        Check.dropAll(mesh);
        loseWayOfThree(mesh);
        mesh.ask(3, 0);
        Check.letters("for 65535", mesh, "[2, 3, 2, 0, 65535, 8]");
        mesh.copy(0);
        mesh.copy(0);
        Check.same("passed on", mesh.deliver(0), 1);
        Check.same("but once", mesh.deliver(0), 0);
        mesh.renew(0);
        loseWayOfThree(mesh);
        int last = mesh.total(0) - 1;
        Check.same("for 0", Check.letter(mesh, last), "[2, 3, 2, 0, 0, 8]");
        Check.same("newer: passed on", mesh.deliver(last), 1);
        Check.same("the old one", Check.letter(mesh, 0), "[2, 3, 2, 0, 65535, 8]");
        Check.same("older now: not passed on", mesh.deliver(0), 0);
    }

    /** 3 hears of 0 and loses it at once; of its word to 2 only the request is left. */
    private static void loseWayOfThree(BabelMesh mesh) {
        int before = mesh.total(0);
        mesh.link(0, 3, 1);
        mesh.deliver(before);
        mesh.link(0, 3, 0);
        for (int i = mesh.total(0) - 1; i >= before; i--) {
            if (mesh.letter(i, 0) == 1) {
                mesh.drop(i);
            }
        }
        if (before == 0) {
            Check.dropAll(mesh);
        }
    }
}
