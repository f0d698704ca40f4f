/** Promises 7 (deliver), 8 (run), 9 (drop), 10 (copy), 11 (letter) and 16 (total). */
public final class RowTest {
    public static void main(String[] args) {
        delivers();
        linkIsNotThere();
        lateOverANewLink();
        runs();
        drops();
        copies();
        lastPlace();
        noRoomForSomeOfThem();
        noRoomForARequest();
        noRoomForALinksLetters();
        copyAtTheLastPlace();
        handedOverInAFullRow();
        fullRowRunsEmpty();
        rebootOfAFullRow();
        runsAtMost();
        runsUntilNoneIsLeft();
        allLinks();
        longUse();
        Check.end("RowTest");
    }

    /** Two letters of each of the links 0-1, 1-2, 2-3. */
    private static BabelMesh line() {
        BabelMesh mesh = new BabelMesh();
        mesh.link(0, 1, 1);
        mesh.link(1, 2, 1);
        mesh.link(2, 3, 1);
        return mesh;
    }

    private static void delivers() {
        BabelMesh mesh = line();
        Check.same("from the middle", mesh.deliver(2), 2);
        Check.letters("it lies there no more, the others in order", mesh,
                "[1, 0, 1, 0, 0, 0]", "[1, 1, 0, 1, 0, 0]", "[1, 2, 1, 2, 0, 0]", "[1, 2, 3, 2, 0, 0]",
                "[1, 3, 2, 3, 0, 0]", "[1, 2, 1, 1, 0, 1]", "[1, 2, 3, 1, 0, 1]");
        Check.same("the last one: what is known already", mesh.deliver(5), 0);
        Check.same("letters", mesh.total(0), 6);
        Check.same("sent", mesh.total(1), 8);
    }

    private static void linkIsNotThere() {
        BabelMesh mesh = line();
        mesh.link(0, 1, 0);
        Check.same("lost", mesh.deliver(0), 0);
        Check.same("lost for want of a link", mesh.total(3), 1);
        Check.same("it said nothing", mesh.told(1, 0, 0, 0), -1);
        Check.same("handed over though lost", mesh.run(1), 1);
        Check.same("lost for want of a link", mesh.total(3), 2);
        Check.same("letters", mesh.total(0), 4);
        mesh.run(500);
        Check.same("the others are not", mesh.total(3), 2);
    }

    private static void lateOverANewLink() {
        BabelMesh mesh = line();
        mesh.link(0, 1, 0);
        mesh.link(0, 1, 7);
        Check.same("the late letter of the old link", mesh.deliver(0), 2);
        Check.same("is taken, with the new cost", Check.way(mesh, 1, 0), "[0, 0, 7, 0, 7]");
    }

    private static void runs() {
        BabelMesh mesh = line();
        Check.same("none", mesh.run(0), 0);
        Check.same("letters", mesh.total(0), 6);
        Check.same("the first two", mesh.run(2), 2);
        Check.same("heard", mesh.way(1, 0, 0), 0);
        Check.same("not yet heard", mesh.way(2, 1, 0), -1);
        int left = mesh.total(0);
        Check.yes("until none is left", mesh.run(500) >= left);
        Check.same("letters", mesh.total(0), 0);
        Check.same("no letter", mesh.run(500), 0);
        Check.same("an end that heard all", mesh.trace(3, 0), 3);
    }

    private static void drops() {
        BabelMesh mesh = line();
        mesh.ask(0, 9);
        Check.same("a telling", mesh.drop(1), 1);
        Check.same("a request", mesh.drop(5), 2);
        Check.letters("the others in order", mesh,
                "[1, 0, 1, 0, 0, 0]", "[1, 1, 2, 1, 0, 0]", "[1, 2, 1, 2, 0, 0]",
                "[1, 2, 3, 2, 0, 0]", "[1, 3, 2, 3, 0, 0]");
        Check.same("sent", mesh.total(1), 7);
        Check.same("not for want of room", mesh.total(2), 0);
        Check.same("not for want of a link", mesh.total(3), 0);
        Check.same("it said nothing", mesh.told(0, 1, 1, 0), -1);
    }

    private static void copies() {
        BabelMesh mesh = line();
        Check.yes("there is room", mesh.copy(1));
        Check.same("behind all others", Check.letter(mesh, 6), "[1, 1, 0, 1, 0, 0]");
        Check.same("the first stays", Check.letter(mesh, 1), "[1, 1, 0, 1, 0, 0]");
        Check.same("letters", mesh.total(0), 7);
        Check.same("a copy is not sent by anybody", mesh.total(1), 6);
        Check.same("heard", mesh.deliver(1), 1);
        Check.same("heard once more: no news", mesh.deliver(5), 0);
    }

    /** 0 with 11 neighbours: 22 letters, and 11 more by each announce(0). */
    private static BabelMesh crowded(int announces) {
        BabelMesh mesh = new BabelMesh();
        for (int node = 1; node < 12; node++) {
            mesh.link(0, node, 1);
        }
        for (int i = 0; i < announces; i++) {
            mesh.announce(0);
        }
        return mesh;
    }

    /** 300 letters, none of which has been handed over. */
    static BabelMesh full() {
        BabelMesh mesh = crowded(25);
        for (int i = 0; i < 3; i++) {
            mesh.copy(i);
        }
        return mesh;
    }

    private static void lastPlace() {
        BabelMesh mesh = full();
        Check.same("300 lie there", mesh.total(0), 300);
        Check.same("none was lost", mesh.total(2), 0);
        mesh.drop(0);
        Check.same("299 lie there", mesh.total(0), 299);
        Check.same("one is sent", mesh.renew(5), 1);
        Check.same("it has the last place", Check.letter(mesh, 299), "[1, 5, 0, 5, 1, 0]");
        Check.same("none was lost", mesh.total(2), 0);
        int sent = mesh.total(1);
        Check.same("one more is sent", mesh.renew(6), 1);
        Check.same("it finds none", mesh.total(0), 300);
        Check.same("the last one is the same", Check.letter(mesh, 299), "[1, 5, 0, 5, 1, 0]");
        Check.same("it was sent", mesh.total(1), sent + 1);
        Check.same("and lost for want of room", mesh.total(2), 1);
        Check.same("not for want of a link", mesh.total(3), 0);
        Check.same("what it told is true all the same", mesh.way(6, 6, 1), 1);
    }

    private static void noRoomForSomeOfThem() {
        BabelMesh mesh = crowded(25);
        Check.same("297 lie there", mesh.total(0), 297);
        Check.same("lost ones count as sent", mesh.announce(0), 11);
        Check.same("300 lie there", mesh.total(0), 300);
        Check.same("sent", mesh.total(1), 308);
        Check.same("lost for want of room", mesh.total(2), 8);
        Check.same("the last that found room", Check.letter(mesh, 299), "[1, 0, 3, 0, 0, 0]");
    }

    private static void noRoomForARequest() {
        BabelMesh mesh = full();
        Check.same("asked, though lost", mesh.ask(1, 5), 1);
        Check.same("300 lie there", mesh.total(0), 300);
        Check.same("lost for want of room", mesh.total(2), 1);
        Check.same("the last is a telling", mesh.letter(299, 0), 1);
    }

    private static void noRoomForALinksLetters() {
        BabelMesh mesh = full();
        mesh.drop(299);
        Check.same("a link comes", mesh.link(1, 2, 1), 0);
        Check.same("300 lie there", mesh.total(0), 300);
        Check.same("the lesser one's telling found room", Check.letter(mesh, 299), "[1, 1, 2, 1, 0, 0]");
        Check.same("the other one's did not", mesh.total(2), 1);
    }

    private static void copyAtTheLastPlace() {
        BabelMesh mesh = full();
        mesh.drop(299);
        Check.same("299 lie there", mesh.total(0), 299);
        Check.yes("room for one copy", mesh.copy(7));
        Check.same("the copy", Check.letter(mesh, 299), Check.letter(mesh, 7));
        Check.same("300 lie there", mesh.total(0), 300);
        Check.yes("no room for two", !mesh.copy(7));
        Check.yes("nor for one of the last", !mesh.copy(299));
        Check.unchanged("a copy without room", RowTest::full, full -> full.copy(0));
    }

    /** A letter that is handed over lies there no more, so what it brings about has its place. */
    private static void handedOverInAFullRow() {
        BabelMesh mesh = full();
        Check.same("1 hears of 0 and tells it", mesh.deliver(0), 1);
        Check.same("that takes its place", mesh.total(0), 300);
        Check.same("behind all others", Check.letter(mesh, 299), "[1, 1, 0, 0, 0, 1]");
        Check.same("none was lost", mesh.total(2), 0);
        Check.same("0 hears of 1 and tells it to eleven", mesh.deliver(0), 11);
        Check.same("one finds room", mesh.total(0), 300);
        Check.same("the first one", Check.letter(mesh, 299), "[1, 0, 1, 1, 0, 1]");
        Check.same("ten do not", mesh.total(2), 10);
        Check.same("the bound is what was told, though lost", Check.way(mesh, 0, 1), "[1, 0, 1, 0, 1]");
    }

    private static void fullRowRunsEmpty() {
        BabelMesh mesh = full();
        int handed = 0;
        int last = 500;
        for (int i = 0; i < 20 && last == 500; i++) {
            last = mesh.run(500);
            handed += last;
        }
        Check.same("nothing is left", mesh.total(0), 0);
        Check.same("all that found room, and 3 copies", handed, mesh.total(1) - mesh.total(2) + 3);
        Check.yes("some did not", mesh.total(2) > 0);
        Check.same("lost on the way", mesh.total(3), 0);
    }

    private static void rebootOfAFullRow() {
        BabelMesh mesh = full();
        for (int node = 1; node < 12; node++) {
            mesh.link(0, node, 0);
        }
        Check.same("nobody knew anything: nothing was sent", mesh.total(2), 0);
        Check.same("all letters are of 0", mesh.reboot(0), 300);
        Check.same("none lies there", mesh.total(0), 0);
        Check.same("all are lost", mesh.total(3), 300);
        mesh.link(3, 4, 1);
        Check.letters("there is room again", mesh, "[1, 3, 4, 3, 0, 0]", "[1, 4, 3, 4, 0, 0]");
    }

    /** All twelve linked, the ways of many steps the nearest: more than 500 letters to hand over. */
    private static BabelMesh everybody() {
        BabelMesh mesh = new BabelMesh();
        for (int a = 0; a < 12; a++) {
            for (int b = 0; b < a; b++) {
                mesh.link(a, b, (a - b) * (a - b));
            }
        }
        return mesh;
    }

    private static void runsAtMost() {
        BabelMesh mesh = everybody();
        Check.same("the most that run() takes", mesh.run(500), 500);
        Check.yes("more are left", mesh.total(0) > 0);
        Check.same("one less", everybody().run(499), 499);
        Check.same("one", everybody().run(1), 1);
        Check.unchanged("run(0)", RowTest::full, full -> full.run(0));
    }

    /** After all is known an announce(0) brings nothing about: 11 destinations to 11 neighbours. */
    private static void runsUntilNoneIsLeft() {
        BabelMesh mesh = crowded(0);
        for (int i = 0; i < 20 && mesh.total(0) > 0; i++) {
            mesh.run(500);
        }
        Check.same("twelve destinations, eleven neighbours", mesh.announce(0), 132);
        Check.same("one less than there are", mesh.run(131), 131);
        Check.same("one is left", mesh.total(0), 1);
        Check.same("one is handed over", mesh.run(2), 1);
        Check.same("none is left", mesh.run(1), 0);
        mesh.announce(0);
        Check.same("just as many as there are", mesh.run(132), 132);
        mesh.announce(0);
        Check.same("one more than there are", mesh.run(133), 132);
    }

    private static void allLinks() {
        BabelMesh mesh = everybody();
        Check.same("as many links as can be", mesh.total(4), 66);
        mesh.link(11, 10, 0);
        Check.same("one less", mesh.total(4), 65);
        mesh.link(10, 11, 3);
        mesh.link(10, 11, 4);
        Check.same("once more, with another cost", mesh.total(4), 66);
    }

    /** Many more letters come and go than lie there at once: their order must outlast that. */
    private static void longUse() {
        BabelMesh mesh = crowded(0);
        mesh.run(500);
        for (int round = 0; round < 20; round++) {
            int first = mesh.renew(0);
            mesh.renew(5);
            Check.same("letters", mesh.total(0), 12);
            Check.same("the first", Check.letter(mesh, 0), "[1, 0, 1, 0, " + first + ", 0]");
            Check.same("the last", Check.letter(mesh, 11), "[1, 5, 0, 5, " + first + ", 0]");
            for (int i = 0; mesh.total(0) > 0 && i < 2; i++) {
                mesh.run(500);
            }
        }
    }
}
