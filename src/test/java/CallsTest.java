/** "An object is used for at most 512 calls after it has been made": the last ones like the first. */
public final class CallsTest {
    public static void main(String[] args) {
        lastCall();
        busiestCalls();
        mostLetters();
        Check.end("CallsTest");
    }

    private static void lastCall() {
        BabelMesh mesh = new BabelMesh();
        mesh.link(0, 1, 1);
        mesh.run(500);
        for (int number = 1; number <= 254; number++) {
            mesh.renew(0);
            mesh.run(500);
        }
        Check.same("the 511th call", mesh.renew(0), 255);
        Check.same("the 512th call", mesh.run(500), 2);
    }

    /** The net of most links, in which all tell all that they know again and again. */
    private static void busiestCalls() {
        BabelMesh mesh = new BabelMesh();
        for (int a = 0; a < 12; a++) {
            for (int b = 0; b < a; b++) {
                mesh.link(a, b, 1 + (a - b) * (a - b));
            }
        }
        for (int i = 0; i < 444; i++) {
            if (i % 4 == 0) {
                mesh.announce(i / 4 % 12);
            } else {
                mesh.run(500);
            }
        }
        Check.same("the 511th call: the nearest way has the most steps", mesh.trace(0, 11), 11);
        Check.same("the 512th call", mesh.total(4), 66);
    }

    /** 0 with eleven neighbours: 22 letters, then each announce(0) sends eleven. */
    private static void mostLetters() {
        BabelMesh mesh = new BabelMesh();
        for (int node = 1; node < 12; node++) {
            mesh.link(0, node, 1000);
        }
        for (int i = 0; i < 498; i++) {
            mesh.announce(0);
        }
        Check.same("the 510th call: sent", mesh.total(1), 22 + 498 * 11);
        Check.same("the 511th call: lost", mesh.total(2), 22 + 498 * 11 - 300);
        Check.same("the 512th call: there are", mesh.total(0), 300);
    }
}
