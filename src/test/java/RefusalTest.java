import java.util.function.Consumer;

/**
 * "A call that throws changes nothing": every argument of every call at both of its edges, where it
 * is taken, and one beyond them, where the call is refused and the whole net stays as it was.
 */
public final class RefusalTest {
    private static final int[] NO_NODES = {-1, 12, Integer.MIN_VALUE, Integer.MAX_VALUE};
    private static final int[] EDGE_NODES = {0, 11};
    private static final String BUSY = Check.whole(RefusalTest::busy);

    public static void main(String[] args) {
        sceneIsBusy();
        noSuchNode();
        edgeNodes();
        bothTheSame();
        costs();
        rebootWithLinks();
        letters();
        lettersOfAFullRow();
        lettersOfAnEmptyRow();
        run();
        whats();
        Check.end("RefusalTest");
    }

    /**
     * Links at both ends of the nodes, ways, bounds with a way and without, tellings and requests
     * in the row, doubled ones too, a request that 2 has passed on already, letters that were lost.
     */
    private static BabelMesh busy() {
        BabelMesh mesh = new BabelMesh();
        mesh.link(0, 1, 5);
        mesh.link(1, 2, 3);
        mesh.link(2, 3, 1);
        mesh.link(0, 11, 1000);
        mesh.link(5, 6, 1);
        mesh.link(5, 6, 0);
        mesh.run(500);
        mesh.renew(11);
        mesh.ask(1, 9);
        mesh.copy(2);
        mesh.deliver(2);
        mesh.link(0, 1, 0);
        return mesh;
    }

    private static void sceneIsBusy() {
        BabelMesh mesh = busy();
        Check.same("the first letter", Check.letter(mesh, 0), "[1, 11, 0, 11, 1, 0]");
        Check.same("a request for 2", Check.letter(mesh, 2), "[2, 1, 2, 9, 0, 8]");
        Check.same("which it has passed on", Check.letter(mesh, 3), "[2, 2, 3, 9, 0, 7]");
        Check.same("a bound without a way", Check.way(mesh, 1, 0), "[-1, -1, -1, 0, 5]");
        Check.same("a bound and a way", Check.way(mesh, 3, 0), "[2, 0, 9, 0, 9]");
        Check.same("lost for want of a link", mesh.total(3), 2);
        Check.same("not passed on again", mesh.deliver(2), 0);
    }

    private static void refused(String what, Consumer<BabelMesh> call) {
        refused(what, IllegalArgumentException.class, call);
    }

    private static void refused(String what, Class<? extends RuntimeException> due, Consumer<BabelMesh> call) {
        BabelMesh mesh = busy();
        Check.throwsExactly(what, due, () -> call.accept(mesh));
        Check.unchanged(what, BUSY, RefusalTest::busy, call);
    }

    private static void taken(String what, Consumer<BabelMesh> call) {
        BabelMesh mesh = busy();
        String thrown = "nothing";
        try {
            call.accept(mesh);
        } catch (RuntimeException e) {
            thrown = e.getClass().getName();
        }
        Check.same(what + " throws", thrown, "nothing");
    }

    private static void noSuchNode() {
        for (int none : NO_NODES) {
            refused("link of " + none, mesh -> mesh.link(none, 1, 7));
            refused("link to " + none, mesh -> mesh.link(1, none, 7));
            refused("link of " + none + " with itself", mesh -> mesh.link(none, none, 7));
            refused("announce " + none, mesh -> mesh.announce(none));
            refused("renew " + none, mesh -> mesh.renew(none));
            refused("ask of " + none, mesh -> mesh.ask(none, 1));
            refused("ask for " + none, mesh -> mesh.ask(1, none));
            refused("reboot " + none, mesh -> mesh.reboot(none));
            refused("way of " + none, mesh -> mesh.way(none, 1, 0));
            refused("way to " + none, mesh -> mesh.way(1, none, 0));
            refused("way of " + none + " to itself", mesh -> mesh.way(none, none, 0));
            refused("told to " + none, mesh -> mesh.told(none, 1, 2, 0));
            refused("told by " + none, mesh -> mesh.told(1, none, 2, 0));
            refused("told of " + none, mesh -> mesh.told(1, 2, none, 0));
            refused("trace of " + none, mesh -> mesh.trace(none, 1));
            refused("trace to " + none, mesh -> mesh.trace(1, none));
            refused("trace of " + none + " to itself", mesh -> mesh.trace(none, none));
            refused("cost of " + none, mesh -> mesh.cost(none, 1));
            refused("cost to " + none, mesh -> mesh.cost(1, none));
        }
    }

    private static void edgeNodes() {
        for (int edge : EDGE_NODES) {
            taken("link of " + edge, mesh -> mesh.link(edge, 1, 7));
            taken("link to " + edge, mesh -> mesh.link(1, edge, 7));
            taken("announce " + edge, mesh -> mesh.announce(edge));
            taken("renew " + edge, mesh -> mesh.renew(edge));
            taken("ask of " + edge, mesh -> mesh.ask(edge, 1));
            taken("ask for " + edge, mesh -> mesh.ask(1, edge));
            taken("reboot " + edge, mesh -> new BabelMesh().reboot(edge));
            taken("way of " + edge, mesh -> mesh.way(edge, 1, 0));
            taken("way to " + edge, mesh -> mesh.way(1, edge, 0));
            taken("told to " + edge, mesh -> mesh.told(edge, 1, 2, 0));
            taken("told by " + edge, mesh -> mesh.told(1, edge, 2, 0));
            taken("told of " + edge, mesh -> mesh.told(1, 2, edge, 0));
            taken("trace of " + edge, mesh -> mesh.trace(edge, 1));
            taken("trace to " + edge, mesh -> mesh.trace(1, edge));
            taken("cost of " + edge, mesh -> mesh.cost(edge, 1));
            taken("cost to " + edge, mesh -> mesh.cost(1, edge));
        }
    }

    private static void bothTheSame() {
        for (int node : new int[] {0, 1, 11}) {
            int other = node == 1 ? 2 : 1;
            refused("link of both " + node, mesh -> mesh.link(node, node, 7));
            refused("no link of both " + node, mesh -> mesh.link(node, node, 0));
            refused("ask of " + node + " for itself", mesh -> mesh.ask(node, node));
            refused("told by " + node + " itself", mesh -> mesh.told(node, node, other, 0));
            refused("told " + node + " of itself", mesh -> mesh.told(node, other, node, 0));
            refused("told thrice " + node, mesh -> mesh.told(node, node, node, 2));
            refused("cost of both " + node, mesh -> mesh.cost(node, node));
            taken("told of the neighbour itself", mesh -> mesh.told(node, other, other, 0));
            taken("way to itself", mesh -> mesh.way(node, node, 0));
            taken("trace to itself", mesh -> mesh.trace(node, node));
        }
    }

    private static void costs() {
        for (int wrong : new int[] {-1, 1001, Integer.MIN_VALUE, Integer.MAX_VALUE}) {
            refused("a new link of cost " + wrong, mesh -> mesh.link(1, 11, wrong));
            refused("an old link of cost " + wrong, mesh -> mesh.link(2, 1, wrong));
        }
        for (int edge : new int[] {0, 1, 1000}) {
            taken("a new link of cost " + edge, mesh -> mesh.link(1, 11, edge));
            taken("an old link of cost " + edge, mesh -> mesh.link(2, 1, edge));
        }
    }

    private static void rebootWithLinks() {
        for (int node : new int[] {0, 1, 2, 3, 11}) {
            refused("reboot of a linked " + node, IllegalStateException.class, mesh -> mesh.reboot(node));
        }
        BabelMesh mesh = busy();
        mesh.link(2, 1, 0);
        Check.throwsExactly("one link is left", IllegalStateException.class, () -> mesh.reboot(2));
        mesh.link(2, 3, 0);
        taken("no link is left", none -> mesh.reboot(2));
    }

    private static void letters() {
        int last = busy().total(0) - 1;
        for (int i : new int[] {-1, last + 1, 299, 300, Integer.MIN_VALUE, Integer.MAX_VALUE}) {
            refused("deliver " + i, mesh -> mesh.deliver(i));
            refused("drop " + i, mesh -> mesh.drop(i));
            refused("copy " + i, mesh -> mesh.copy(i));
            refused("letter " + i, mesh -> mesh.letter(i, 0));
        }
        for (int i : new int[] {0, last}) {
            taken("deliver " + i, mesh -> mesh.deliver(i));
            taken("drop " + i, mesh -> mesh.drop(i));
            taken("copy " + i, mesh -> mesh.copy(i));
            taken("letter " + i, mesh -> mesh.letter(i, 0));
        }
    }

    private static void lettersOfAFullRow() {
        String full = Check.whole(RowTest::full);
        for (int i : new int[] {-1, 300}) {
            Check.refuses("full: deliver " + i, () -> RowTest.full().deliver(i));
            Check.unchanged("full: deliver " + i, full, RowTest::full, mesh -> mesh.deliver(i));
            Check.refuses("full: drop " + i, () -> RowTest.full().drop(i));
            Check.unchanged("full: drop " + i, full, RowTest::full, mesh -> mesh.drop(i));
            Check.refuses("full: copy " + i, () -> RowTest.full().copy(i));
            Check.unchanged("full: copy " + i, full, RowTest::full, mesh -> mesh.copy(i));
            Check.refuses("full: letter " + i, () -> RowTest.full().letter(i, 0));
            Check.unchanged("full: letter " + i, full, RowTest::full, mesh -> mesh.letter(i, 0));
        }
        Check.same("full: letter 299", RowTest.full().letter(299, 0), 1);
        Check.same("full: drop 299", RowTest.full().drop(299), 1);
        BabelMesh mesh = RowTest.full();
        mesh.drop(299);
        Check.refuses("299 lies there no more", () -> mesh.letter(299, 0));
    }

    private static void lettersOfAnEmptyRow() {
        String empty = Check.whole(BabelMesh::new);
        Check.refuses("empty: deliver", () -> new BabelMesh().deliver(0));
        Check.unchanged("empty: deliver", empty, BabelMesh::new, mesh -> mesh.deliver(0));
        Check.refuses("empty: drop", () -> new BabelMesh().drop(0));
        Check.unchanged("empty: drop", empty, BabelMesh::new, mesh -> mesh.drop(0));
        Check.refuses("empty: copy", () -> new BabelMesh().copy(0));
        Check.unchanged("empty: copy", empty, BabelMesh::new, mesh -> mesh.copy(0));
        Check.refuses("empty: letter", () -> new BabelMesh().letter(0, 0));
        Check.unchanged("empty: letter", empty, BabelMesh::new, mesh -> mesh.letter(0, 0));
    }

    private static void run() {
        for (int n : new int[] {-1, 501, Integer.MIN_VALUE, Integer.MAX_VALUE}) {
            refused("run " + n, mesh -> mesh.run(n));
        }
        for (int n : new int[] {0, 500}) {
            taken("run " + n, mesh -> mesh.run(n));
        }
    }

    private static void whats() {
        for (int wrong : new int[] {-1, 6, Integer.MIN_VALUE, Integer.MAX_VALUE}) {
            refused("letter's " + wrong, mesh -> mesh.letter(0, wrong));
        }
        for (int wrong : new int[] {-1, 5, Integer.MIN_VALUE, Integer.MAX_VALUE}) {
            refused("way's " + wrong, mesh -> mesh.way(2, 1, wrong));
            refused("way's " + wrong + " to itself", mesh -> mesh.way(2, 2, wrong));
            refused("total " + wrong, mesh -> mesh.total(wrong));
        }
        for (int wrong : new int[] {-1, 3, Integer.MIN_VALUE, Integer.MAX_VALUE}) {
            refused("told's " + wrong, mesh -> mesh.told(2, 1, 1, wrong));
            refused("told's " + wrong + " of nothing", mesh -> mesh.told(2, 7, 8, wrong));
        }
        taken("letter's 5", mesh -> mesh.letter(0, 5));
        taken("way's 4", mesh -> mesh.way(2, 1, 4));
        taken("total 4", mesh -> mesh.total(4));
        taken("told's 2", mesh -> mesh.told(2, 1, 1, 2));
    }
}
