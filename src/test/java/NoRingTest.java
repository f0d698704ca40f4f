import java.util.Random;

/**
 * The document's first sentence: "what neighbours tell is taken only if it is nearer or newer than
 * anything this node has told itself, so that no ways ever go round in a ring".
 *
 * Chance runs of links that come and go, letters lost, doubled and late, and reboots; the ways to
 * node 0 are looked at again and again while letters are still under way.
 */
public final class NoRingTest {
    private static final int RUNS = 1500;
    private static final int LOOKS = 7;
    private static final int CALLS_BEFORE_A_LOOK = 20;

    private final BabelMesh mesh = new BabelMesh();
    private final Random random;
    private final int nodes;

    private NoRingTest(long seed) {
        random = new Random(seed);
        nodes = 3 + random.nextInt(5);
    }

    public static void main(String[] args) {
        for (int seed = 0; seed < RUNS; seed++) {
            NoRingTest test = new NoRingTest(seed);
            for (int look = 0; look < LOOKS; look++) {
                for (int i = 0; i < CALLS_BEFORE_A_LOOK; i++) {
                    test.step();
                }
                test.look("seed " + seed + ", look " + look);
            }
        }
        Check.end("NoRingTest");
    }

    private void step() {
        int letters = mesh.total(0);
        int chance = random.nextInt(20);
        if (chance < 5) {
            linkTwo(1 + random.nextInt(9));
        } else if (chance < 8) {
            linkTwo(0);
        } else if (chance < 9) {
            mesh.announce(random.nextInt(nodes));
        } else if (chance < 10) {
            rebootIfAlone(1 + random.nextInt(nodes - 1));
        } else if (chance < 11) {
            mesh.ask(1 + random.nextInt(nodes - 1), 0);
        } else if (letters == 0) {
            mesh.renew(0);
        } else if (chance < 13) {
            mesh.copy(random.nextInt(letters));
        } else if (chance < 14) {
            mesh.drop(random.nextInt(letters));
        } else if (chance < 18) {
            mesh.deliver(random.nextInt(letters));
        } else {
            mesh.run(random.nextInt(12));
        }
    }

    private void linkTwo(int cost) {
        int a = random.nextInt(nodes);
        int b = (a + 1 + random.nextInt(nodes - 1)) % nodes;
        mesh.link(a, b, cost);
    }

    private void rebootIfAlone(int node) {
        try {
            mesh.reboot(node);
        } catch (IllegalStateException e) {
            // It has links: another chance call then.
        }
    }

    private void look(String when) {
        int[] over = new int[nodes];
        for (int node = 0; node < nodes; node++) {
            over[node] = mesh.way(node, 0, 0);
            if (node != 0 && over[node] != BabelMesh.NONE) {
                lookAtWay(when + ", node " + node, node, over[node]);
            }
        }
        for (int node = 0; node < nodes; node++) {
            lookForRing(when + ", from " + node, node, over);
        }
    }

    private void lookAtWay(String when, int node, int chosen) {
        Check.same(when + ": what the chosen one told is good", mesh.told(node, chosen, 0, 2), 1);
        int sum = mesh.told(node, chosen, 0, 1) + mesh.cost(node, chosen);
        Check.same(when + ": the way is as far as told and the link", mesh.way(node, 0, 2), sum);
    }

    private static void lookForRing(String when, int node, int[] over) {
        int at = node;
        int steps = 0;
        while (at != 0 && at != BabelMesh.NONE && steps <= over.length) {
            at = over[at];
            steps++;
        }
        Check.yes(when + ": no ring", steps <= over.length);
    }
}
