import java.util.ArrayList;
import java.util.List;

/** What the tests share: comparing answers, telling what is wrong, looking at a whole net. */
final class Check {
    private static int wrong = 0;
    private static int done = 0;

    private Check() {
    }

    static void same(String what, long got, long due) {
        done++;
        if (got != due) {
            wrong++;
            System.out.println(what + " answered " + got + ", due is " + due);
        }
    }

    static void same(String what, String got, String due) {
        done++;
        if (!got.equals(due)) {
            wrong++;
            System.out.println(what + ": " + got + "\n  due is: " + due);
        }
    }

    static void yes(String what, boolean holds) {
        same(what, holds ? 1 : 0, 1);
    }

    static void refuses(String what, Runnable call) {
        throwsExactly(what, IllegalArgumentException.class, call);
    }

    static void throwsExactly(String what, Class<? extends RuntimeException> due, Runnable call) {
        String got = "nothing";
        try {
            call.run();
        } catch (RuntimeException e) {
            got = e.getClass().getName();
        }
        same(what + " throws", got, due.getName());
    }

    /** Kind, from, to, destination, number, metric or steps of letter i. */
    static String letter(BabelMesh mesh, int i) {
        List<Integer> fields = new ArrayList<>();
        for (int what = 0; what <= 5; what++) {
            fields.add(mesh.letter(i, what));
        }
        return fields.toString();
    }

    static void letters(String what, BabelMesh mesh, String... due) {
        same(what + ": letters", mesh.total(0), due.length);
        for (int i = 0; i < due.length && i < mesh.total(0); i++) {
            same(what + ": letter " + i, letter(mesh, i), due[i]);
        }
    }

    /** Chosen neighbour, number, metric, bound's number and metric. */
    static String way(BabelMesh mesh, int node, int destination) {
        List<Integer> parts = new ArrayList<>();
        for (int what = 0; what <= 4; what++) {
            parts.add(mesh.way(node, destination, what));
        }
        return parts.toString();
    }

    /**
     * All that can be seen of the nodes below the given one. A document's object answers 512 calls:
     * with 3 nodes and up to 20 letters this takes some 230 of them.
     */
    static String view(BabelMesh mesh, int nodes) {
        StringBuilder seen = new StringBuilder();
        for (int what = 0; what <= 4; what++) {
            seen.append(mesh.total(what)).append(' ');
        }
        for (int i = 0; i < mesh.total(0); i++) {
            seen.append(letter(mesh, i));
        }
        for (int a = 0; a < nodes; a++) {
            for (int b = 0; b < nodes; b++) {
                seen.append(way(mesh, a, b));
                if (a != b) {
                    seen.append(mesh.cost(a, b)).append(viewTold(mesh, a, b, nodes));
                }
            }
        }
        return seen.toString();
    }

    private static String viewTold(BabelMesh mesh, int node, int neighbour, int nodes) {
        StringBuilder seen = new StringBuilder();
        for (int destination = 0; destination < nodes; destination++) {
            if (destination != node) {
                for (int what = 0; what <= 2; what++) {
                    seen.append(' ').append(mesh.told(node, neighbour, destination, what));
                }
            }
        }
        return seen.toString();
    }

    static void end(String name) {
        System.out.println(name + ": " + done + " answers looked at, " + wrong + " wrong");
        if (wrong != 0) {
            System.exit(1);
        }
    }
}
