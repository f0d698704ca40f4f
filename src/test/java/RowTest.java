/** Promises 7 (deliver), 8 (run), 9 (drop), 10 (copy), 11 (letter) and 16 (total). */
public final class RowTest {
    public static void main(String[] args) {
        delivers();
        linkIsNotThere();
        lateOverANewLink();
        runs();
        drops();
        copies();
        fullRow();
        longUse();
        wrongInputs();
        Check.end("RowTest");
    }

    /** Two letters of each of the links 0-1, 1-2, 2-3. */
    private static BabelMesh line() {
        BabelMesh mesh = new BabelMesh();
        mesh.link(0, 1, 1);
        mesh.link(1, 2, 1);
        mesh.link(2, 3, 1);
        return mesh;
    }

    private static void delivers() {
        BabelMesh mesh = line();
        Check.same("from the middle", mesh.deliver(2), 2);
        Check.letters("it lies there no more, the others in order", mesh,
                "[1, 0, 1, 0, 0, 0]", "[1, 1, 0, 1, 0, 0]", "[1, 2, 1, 2, 0, 0]", "[1, 2, 3, 2, 0, 0]",
                "[1, 3, 2, 3, 0, 0]", "[1, 2, 1, 1, 0, 1]", "[1, 2, 3, 1, 0, 1]");
        Check.same("the last one: what is known already", mesh.deliver(5), 0);
        Check.same("letters", mesh.total(0), 6);
        Check.same("sent", mesh.total(1), 8);
    }

    private static void linkIsNotThere() {
        BabelMesh mesh = line();
        mesh.link(0, 1, 0);
        Check.same("lost", mesh.deliver(0), 0);
        Check.same("lost for want of a link", mesh.total(3), 1);
        Check.same("it said nothing", mesh.told(1, 0, 0, 0), -1);
        Check.same("handed over though lost", mesh.run(1), 1);
        Check.same("lost for want of a link", mesh.total(3), 2);
        Check.same("letters", mesh.total(0), 4);
        mesh.run(500);
        Check.same("the others are not", mesh.total(3), 2);
    }

    private static void lateOverANewLink() {
        BabelMesh mesh = line();
        mesh.link(0, 1, 0);
        mesh.link(0, 1, 7);
        Check.same("the late letter of the old link", mesh.deliver(0), 2);
        Check.same("is taken, with the new cost", Check.way(mesh, 1, 0), "[0, 0, 7, 0, 7]");
    }

    private static void runs() {
        BabelMesh mesh = line();
        Check.same("none", mesh.run(0), 0);
        Check.same("letters", mesh.total(0), 6);
        Check.same("the first two", mesh.run(2), 2);
        Check.same("heard", mesh.way(1, 0, 0), 0);
        Check.same("not yet heard", mesh.way(2, 1, 0), -1);
        int left = mesh.total(0);
        Check.yes("until none is left", mesh.run(500) >= left);
        Check.same("letters", mesh.total(0), 0);
        Check.same("no letter", mesh.run(500), 0);
        Check.same("an end that heard all", mesh.trace(3, 0), 3);
    }

    private static void drops() {
        BabelMesh mesh = line();
        mesh.ask(0, 9);
        Check.same("a telling", mesh.drop(1), 1);
        Check.same("a request", mesh.drop(5), 2);
        Check.letters("the others in order", mesh,
                "[1, 0, 1, 0, 0, 0]", "[1, 1, 2, 1, 0, 0]", "[1, 2, 1, 2, 0, 0]",
                "[1, 2, 3, 2, 0, 0]", "[1, 3, 2, 3, 0, 0]");
        Check.same("sent", mesh.total(1), 7);
        Check.same("not for want of room", mesh.total(2), 0);
        Check.same("not for want of a link", mesh.total(3), 0);
        Check.same("it said nothing", mesh.told(0, 1, 1, 0), -1);
    }

    private static void copies() {
        BabelMesh mesh = line();
        Check.yes("there is room", mesh.copy(1));
        Check.same("behind all others", Check.letter(mesh, 6), "[1, 1, 0, 1, 0, 0]");
        Check.same("the first stays", Check.letter(mesh, 1), "[1, 1, 0, 1, 0, 0]");
        Check.same("letters", mesh.total(0), 7);
        Check.same("a copy is not sent by anybody", mesh.total(1), 6);
        Check.same("heard", mesh.deliver(1), 1);
        Check.same("heard once more: no news", mesh.deliver(5), 0);
    }

    /** 0 with 11 neighbours: 22 letters, and 11 more by each announce(0). */
    private static BabelMesh crowded(int announces) {
        BabelMesh mesh = new BabelMesh();
        for (int node = 1; node < 12; node++) {
            mesh.link(0, node, 1);
        }
        for (int i = 0; i < announces; i++) {
            mesh.announce(0);
        }
        return mesh;
    }

    private static void fullRow() {
        BabelMesh mesh = crowded(25);
        Check.same("letters", mesh.total(0), 297);
        Check.same("lost ones count as sent", mesh.announce(0), 11);
        Check.same("letters", mesh.total(0), 300);
        Check.same("sent", mesh.total(1), 308);
        Check.same("lost for want of room", mesh.total(2), 8);
        Check.same("the last that found room", Check.letter(mesh, 299), "[1, 0, 3, 0, 0, 0]");
        Check.yes("no room for a copy", !mesh.copy(0));
        Check.same("letters", mesh.total(0), 300);
        Check.same("a copy is not sent", mesh.total(1), 308);
        Check.same("lost for want of room", mesh.total(2), 8);
        Check.same("a request finds no room", mesh.ask(1, 5), 1);
        Check.same("lost for want of room", mesh.total(2), 9);
        Check.same("what it brings about", mesh.deliver(0), 1);
        Check.same("takes its place", mesh.total(0), 300);
        Check.same("lost for want of room", mesh.total(2), 9);
        Check.same("behind all others", Check.letter(mesh, 299), "[1, 1, 0, 0, 0, 1]");
        Check.same("eleven for one place", mesh.deliver(0), 11);
        Check.same("lost for want of room", mesh.total(2), 19);
        Check.same("the bound is what was told, though lost", mesh.way(0, 1, 4), 1);
        mesh.drop(7);
        Check.yes("room for one copy", mesh.copy(7));
        Check.yes("no room for two", !mesh.copy(7));
        int before = mesh.total(1) - mesh.total(2);
        int handed = mesh.run(500);
        Check.same("all that found room are handed over", handed, 300 + mesh.total(1) - mesh.total(2) - before);
        Check.same("letters", mesh.total(0), 0);
        Check.same("lost on the way", mesh.total(3), 0);
    }

    /** Many more letters come and go than lie there at once: their order must outlast that. */
    private static void longUse() {
        BabelMesh mesh = crowded(0);
        mesh.run(500);
        for (int round = 0; round < 20; round++) {
            int first = mesh.renew(0);
            mesh.renew(5);
            Check.same("letters", mesh.total(0), 12);
            Check.same("the first", Check.letter(mesh, 0), "[1, 0, 1, 0, " + first + ", 0]");
            Check.same("the last", Check.letter(mesh, 11), "[1, 5, 0, 5, " + first + ", 0]");
            for (int i = 0; mesh.total(0) > 0 && i < 2; i++) {
                mesh.run(500);
            }
        }
    }

    private static void wrongInputs() {
        BabelMesh mesh = new BabelMesh();
        BabelMesh twin = new BabelMesh();
        for (BabelMesh each : new BabelMesh[] {mesh, twin}) {
            each.link(0, 1, 5);
            each.link(1, 2, 5);
            each.run(1);
        }
        int count = 5;
        for (int i : new int[] {-1, count, 300, Integer.MAX_VALUE, Integer.MIN_VALUE}) {
            Check.refuses("deliver " + i, () -> mesh.deliver(i));
            Check.refuses("drop " + i, () -> mesh.drop(i));
            Check.refuses("copy " + i, () -> mesh.copy(i));
            Check.refuses("letter " + i, () -> mesh.letter(i, 0));
        }
        for (int what : new int[] {-1, 6}) {
            Check.refuses("letter's " + what, () -> mesh.letter(0, what));
        }
        for (int n : new int[] {-1, 501}) {
            Check.refuses("run " + n, () -> mesh.run(n));
        }
        for (int what : new int[] {-1, 5}) {
            Check.refuses("total " + what, () -> mesh.total(what));
        }
        Check.same("nothing changed", Check.view(mesh, 3), Check.view(twin, 3));
        BabelMesh none = new BabelMesh();
        Check.refuses("deliver without letters", () -> none.deliver(0));
        Check.refuses("drop without letters", () -> none.drop(0));
        Check.refuses("copy without letters", () -> none.copy(0));
        Check.refuses("letter without letters", () -> none.letter(0, 0));
    }
}
