/** The example of README.md, line by line. */
public final class UseTest {
    public static void main(String[] args) {
        BabelMesh mesh = new BabelMesh();
        mesh.link(0, 1, 5);
        mesh.link(1, 2, 3);
        mesh.run(500);
        Check.same("the neighbour", mesh.way(2, 0, 0), 1);
        Check.same("the metric", mesh.way(2, 0, 2), 8);
        Check.same("the steps", mesh.trace(2, 0), 2);
        mesh.link(0, 1, 0);
        Check.same("FAR", mesh.letter(0, 5), 65535);
        Check.same("the request", mesh.letter(1, 0), 2);
        Check.same("letters by hand", mesh.deliver(0), 2);
        Check.same("no way", mesh.way(2, 0, 0), BabelMesh.NONE);
        Check.end("UseTest");
    }
}
