import java.util.ArrayList;
import java.util.List;
import java.util.Random;

/**
 * Long runs of chance calls, each answer compared with the model's; at the end of each run no ways
 * may go round in a ring. With that look an object answers 512 calls, as many as the document
 * promises; but some runs start with numbers just below 65535, which takes far more.
 */
public final class ModelTest {
    private static final int RUNS = 3000;
    private static final int CALLS = 368;
    private static final int RUNS_AT_THE_WRAP = 30;

    private final BabelMesh mesh = new BabelMesh();
    private final Model model = new Model();
    private final Random random;
    private final int nodes;
    private final List<String> done = new ArrayList<>();
    private boolean wrong = false;

    private ModelTest(long seed) {
        random = new Random(seed);
        nodes = 2 + random.nextInt(11);
    }

    public static void main(String[] args) {
        for (int seed = 0; seed < RUNS; seed++) {
            ModelTest test = new ModelTest(seed);
            if (seed < RUNS_AT_THE_WRAP) {
                test.numberAll();
            }
            for (int i = 0; i < CALLS && !test.wrong; i++) {
                test.step();
            }
            if (test.wrong) {
                Check.same("seed " + seed, String.join("; ", test.done), "the model's answer");
                break;
            }
            Check.yes("no ring, seed " + seed, test.noRing());
        }
        Check.end("ModelTest");
    }

    private void numberAll() {
        for (int node = 0; node < nodes && node < 4; node++) {
            int times = 65530 + random.nextInt(6);
            for (int i = 0; i < times; i++) {
                mesh.renew(node);
                model.call("renew", node);
            }
        }
    }

    private void step() {
        int letters = Integer.parseInt(model.call("total", 0));
        switch (random.nextInt(22)) {
            case 0, 1, 2 -> both("link", node(), node(), 1 + random.nextInt(random.nextBoolean() ? 4 : 1000));
            case 3, 4 -> both("link", node(), node(), random.nextInt(30) == 0 ? odd() : 0);
            case 5 -> both("announce", node());
            case 6 -> both("renew", node());
            case 7, 8 -> both("ask", node(), node());
            case 9 -> cutOffAndReboot();
            case 10, 11, 12, 13 -> both("deliver", letter(letters));
            case 14 -> both("run", random.nextInt(4) == 0 ? random.nextInt(502) : random.nextInt(30));
            case 15 -> both("drop", letter(letters));
            case 16, 17 -> both("copy", letter(letters));
            case 18 -> both("letter", letter(letters), random.nextInt(7) - (random.nextInt(20) == 0 ? 1 : 0));
            case 19 -> both("way", node(), node(), random.nextInt(6));
            case 20 -> both("told", node(), node(), node(), random.nextInt(4));
            default -> look();
        }
    }

    private void look() {
        switch (random.nextInt(3)) {
            case 0 -> both("trace", node(), node());
            case 1 -> both("cost", node(), node());
            default -> both("total", random.nextInt(6));
        }
    }

    private void cutOffAndReboot() {
        int node = random.nextInt(nodes);
        if (random.nextInt(3) == 0) {
            for (int other = 0; other < nodes; other++) {
                if (other != node && !model.call("cost", node, other).equals("0")) {
                    both("link", node, other, 0);
                }
            }
        }
        both("reboot", node);
    }

    private int node() {
        return random.nextInt(60) == 0 ? odd() : random.nextInt(nodes);
    }

    private int odd() {
        return new int[] {-1, 12, 1001, Integer.MIN_VALUE, Integer.MAX_VALUE}[random.nextInt(5)];
    }

    private int letter(int letters) {
        return letters == 0 || random.nextInt(40) == 0 ? letters : random.nextInt(letters);
    }

    private void both(String name, int... x) {
        if (wrong || done.size() >= CALLS) {
            return;
        }
        String due = model.call(name, x);
        String got;
        try {
            got = String.valueOf(call(name, x));
        } catch (RuntimeException e) {
            got = e.getClass().getSimpleName();
        }
        done.add(name + java.util.Arrays.toString(x) + " -> " + got);
        if (!got.equals(due)) {
            done.add("due is " + due);
            wrong = true;
        }
    }

    private int call(String name, int[] x) {
        return switch (name) {
            case "link" -> mesh.link(x[0], x[1], x[2]);
            case "announce" -> mesh.announce(x[0]);
            case "renew" -> mesh.renew(x[0]);
            case "ask" -> mesh.ask(x[0], x[1]);
            case "reboot" -> mesh.reboot(x[0]);
            case "deliver" -> mesh.deliver(x[0]);
            case "run" -> mesh.run(x[0]);
            case "drop" -> mesh.drop(x[0]);
            case "copy" -> mesh.copy(x[0]) ? 1 : 0;
            case "letter" -> mesh.letter(x[0], x[1]);
            case "way" -> mesh.way(x[0], x[1], x[2]);
            case "told" -> mesh.told(x[0], x[1], x[2], x[3]);
            case "trace" -> mesh.trace(x[0], x[1]);
            case "cost" -> mesh.cost(x[0], x[1]);
            case "total" -> mesh.total(x[0]);
            default -> throw new AssertionError(name);
        };
    }

    private boolean noRing() {
        for (int destination = 0; destination < nodes; destination++) {
            int[] over = new int[12];
            for (int node = 0; node < nodes; node++) {
                over[node] = mesh.way(node, destination, 0);
            }
            for (int node = 0; node < nodes; node++) {
                int at = node;
                for (int steps = 0; at != BabelMesh.NONE && at != destination; steps++) {
                    if (steps > 12) {
                        return false;
                    }
                    at = over[at];
                }
            }
        }
        return true;
    }
}
