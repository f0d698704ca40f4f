import java.util.ArrayList;
import java.util.List;
import java.util.function.Consumer;

/** What the tests share: comparing answers, telling what is wrong, looking at a whole net. */
final class Check {
    private static final int NODES = 12;
    private static final int LETTERS_A_PART = 70;

    private static int wrong = 0;
    private static int done = 0;

    private Check() {
    }

    static void same(String what, long got, long due) {
        done++;
        if (got != due) {
            wrong++;
            System.out.println(what + " answered " + got + ", due is " + due);
        }
    }

    static void same(String what, String got, String due) {
        done++;
        if (!got.equals(due)) {
            wrong++;
            System.out.println(what + ": " + got + "\n  due is: " + due);
        }
    }

    static void yes(String what, boolean holds) {
        same(what, holds ? 1 : 0, 1);
    }

    static void refuses(String what, Runnable call) {
        throwsExactly(what, IllegalArgumentException.class, call);
    }

    static void throwsExactly(String what, Class<? extends RuntimeException> due, Runnable call) {
        String got = "nothing";
        try {
            call.run();
        } catch (RuntimeException e) {
            got = e.getClass().getName();
        }
        same(what + " throws", got, due.getName());
    }

    /** Kind, from, to, destination, number, metric or steps of letter i. */
    static String letter(BabelMesh mesh, int i) {
        List<Integer> fields = new ArrayList<>();
        for (int what = 0; what <= 5; what++) {
            fields.add(mesh.letter(i, what));
        }
        return fields.toString();
    }

    static void letters(String what, BabelMesh mesh, String... due) {
        same(what + ": letters", mesh.total(0), due.length);
        for (int i = 0; i < due.length && i < mesh.total(0); i++) {
            same(what + ": letter " + i, letter(mesh, i), due[i]);
        }
    }

    /** Chosen neighbour, number, metric, bound's number and metric. */
    static String way(BabelMesh mesh, int node, int destination) {
        List<Integer> parts = new ArrayList<>();
        for (int what = 0; what <= 4; what++) {
            parts.add(mesh.way(node, destination, what));
        }
        return parts.toString();
    }

    /** Makes one and the same net again and again. */
    interface Scene {
        BabelMesh make();
    }

    /**
     * All that can be seen of a net. An object answers 512 calls, so each part is looked at on an
     * object of its own; the scene may take 60 calls.
     */
    static String whole(Scene scene) {
        StringBuilder seen = new StringBuilder(viewRow(scene));
        for (int node = 0; node < NODES; node++) {
            seen.append("\n  node ").append(node).append(':').append(viewNode(scene.make(), node));
        }
        return seen.append("\n  handed over:").append(viewHandingOver(scene.make())).toString();
    }

    static void unchanged(String what, Scene scene, Consumer<BabelMesh> call) {
        unchanged(what, whole(scene), scene, call);
    }

    /** The same, with what is to be seen without the call at hand already. */
    static void unchanged(String what, String before, Scene scene, Consumer<BabelMesh> call) {
        same(what + " changes nothing", whole(() -> {
            BabelMesh mesh = scene.make();
            try {
                call.accept(mesh);
            } catch (IllegalArgumentException | IllegalStateException e) {
                // What is thrown is looked at elsewhere: here only what it leaves behind.
            }
            return mesh;
        }), before);
    }

    private static String viewRow(Scene scene) {
        BabelMesh first = scene.make();
        StringBuilder seen = new StringBuilder();
        for (int what = 0; what <= 4; what++) {
            seen.append(first.total(what)).append(' ');
        }
        int letters = first.total(0);
        for (int start = 0; start < letters; start += LETTERS_A_PART) {
            BabelMesh mesh = scene.make();
            for (int i = start; i < letters && i < start + LETTERS_A_PART; i++) {
                seen.append(letter(mesh, i));
            }
        }
        return seen.toString();
    }

    private static String viewNode(BabelMesh mesh, int node) {
        StringBuilder seen = new StringBuilder();
        for (int other = 0; other < NODES; other++) {
            seen.append(way(mesh, node, other));
            if (other != node) {
                seen.append(mesh.cost(node, other)).append(viewTold(mesh, node, other));
            }
        }
        return seen.toString();
    }

    private static String viewTold(BabelMesh mesh, int node, int neighbour) {
        StringBuilder seen = new StringBuilder();
        for (int destination = 0; destination < NODES; destination++) {
            if (destination != node) {
                for (int what = 0; what <= 2; what++) {
                    seen.append(' ').append(mesh.told(node, neighbour, destination, what));
                }
            }
        }
        return seen.toString();
    }

    /** What was passed on cannot be asked for: only what the letters do tells it. */
    private static String viewHandingOver(BabelMesh mesh) {
        StringBuilder seen = new StringBuilder();
        for (int i = 0; i < 200 && mesh.total(0) > 0; i++) {
            seen.append(' ').append(mesh.deliver(0));
        }
        return seen.toString();
    }

    static void dropAll(BabelMesh mesh) {
        while (mesh.total(0) > 0) {
            mesh.drop(0);
        }
    }

    static void end(String name) {
        System.out.println(name + ": " + done + " answers looked at, " + wrong + " wrong");
        if (wrong != 0) {
            System.exit(1);
        }
    }
}
