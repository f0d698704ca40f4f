/** Promise 6 (reboot). */
public final class RebootTest {
    public static void main(String[] args) {
        forgetsBounds();
        forgetsWhatItPassedOn();
        losesLetters();
        nothingToForget();
        oneOfTwoEnds();
        afterTheReboot();
        Check.end("RebootTest");
    }

    private static void forgetsBounds() {
        BabelMesh mesh = new BabelMesh();
        mesh.link(0, 1, 1);
        mesh.link(1, 2, 1);
        mesh.run(500);
        mesh.renew(2);
        mesh.link(1, 2, 0);
        Check.same("a bound", Check.way(mesh, 2, 0), "[-1, -1, -1, 0, 2]");
        mesh.reboot(2);
        Check.same("no bound", Check.way(mesh, 2, 0), "[-1, -1, -1, -1, -1]");
        Check.same("its own number stays", mesh.way(2, 2, 1), 1);
        Check.same("others' bounds stay", Check.way(mesh, 1, 2), "[-1, -1, -1, 0, 1]");
        Check.same("nothing to tell", mesh.announce(2), 0);
        mesh.run(500);
        mesh.link(2, 1, 9);
        mesh.run(500);
        Check.same("without a bound a farther way is taken", Check.way(mesh, 2, 0), "[1, 0, 10, 0, 10]");
    }

    private static void forgetsWhatItPassedOn() {
        BabelMesh mesh = new BabelMesh();
        for (int round = 0; round < 2; round++) {
            mesh.link(0, 1, 1);
            mesh.link(1, 2, 1);
            mesh.run(500);
            mesh.ask(0, 9);
            Check.same("passed on", mesh.deliver(0), 1);
            mesh.run(500);
            mesh.ask(0, 9);
            Check.same("passed on already", mesh.deliver(0), 0);
            mesh.link(0, 1, 0);
            mesh.link(1, 2, 0);
            mesh.reboot(1);
        }
    }

    private static void losesLetters() {
        BabelMesh mesh = new BabelMesh();
        mesh.link(0, 1, 1);
        mesh.link(2, 3, 1);
        mesh.link(1, 2, 1);
        mesh.link(0, 3, 1);
        mesh.link(0, 1, 0);
        mesh.link(1, 2, 0);
        Check.same("letters", mesh.total(0), 8);
        Check.same("to it and from it", mesh.reboot(1), 4);
        Check.letters("the others stay in order", mesh,
                "[1, 2, 3, 2, 0, 0]", "[1, 3, 2, 3, 0, 0]", "[1, 0, 3, 0, 0, 0]", "[1, 3, 0, 3, 0, 0]");
        Check.same("they count as lost", mesh.total(3), 4);
        Check.same("none is left", mesh.reboot(1), 0);
        Check.same("a node that never had a link", mesh.reboot(11), 0);
        Check.same("sent stays", mesh.total(1), 8);
        Check.same("room was there", mesh.total(2), 0);
    }

    private static BabelMesh apart() {
        BabelMesh mesh = new BabelMesh();
        mesh.link(0, 1, 1);
        mesh.link(1, 2, 1);
        mesh.run(500);
        mesh.renew(1);
        return mesh;
    }

    private static void nothingToForget() {
        Check.same("no letter of it", apart().reboot(7), 0);
        Check.unchanged("a node that nobody knows", RebootTest::apart, mesh -> mesh.reboot(7));
    }

    private static void oneOfTwoEnds() {
        BabelMesh mesh = apart();
        Check.throwsExactly("two links", IllegalStateException.class, () -> mesh.reboot(1));
        mesh.link(0, 1, 0);
        Check.throwsExactly("one link", IllegalStateException.class, () -> mesh.reboot(1));
        Check.same("the end without a link", mesh.reboot(0), 1);
        Check.same("its letter is lost", mesh.total(3), 1);
        Check.same("the other's bound stays", Check.way(mesh, 1, 0), "[-1, -1, -1, 0, 1]");
        mesh.link(1, 2, 0);
        Check.yes("no link", mesh.reboot(1) > 0);
        Check.same("all bounds are gone", mesh.way(1, 0, 3) + mesh.way(1, 2, 3), -2);
        Check.same("the way to itself is not", Check.way(mesh, 1, 1), "[1, 1, 0, -1, -1]");
        Check.same("no letter is left", mesh.total(0), 0);
    }

    /** A letter that was on its way would be taken when the link comes again; a lost one is not. */
    private static void afterTheReboot() {
        BabelMesh mesh = new BabelMesh();
        mesh.renew(3);
        mesh.link(3, 4, 1);
        mesh.link(3, 4, 0);
        Check.same("one from it, one to it", mesh.reboot(3), 2);
        mesh.link(3, 4, 9);
        Check.letters("new ones alone, with its old number", mesh, "[1, 3, 4, 3, 1, 0]", "[1, 4, 3, 4, 0, 0]");
        Check.same("sent", mesh.total(1), 4);
        Check.same("lost", mesh.total(3), 2);
    }
}
