/** Promises 14 to 16: copies and what is swept. */
public final class CopiesTest {
    private static final int BAD = GraphSaver.BAD, NOT = GraphSaver.NOT, FULL = GraphSaver.FULL;
    private static final Check C = new Check();

    public static void main(String[] args) {
        promise14Copy();
        promise14CopyFull();
        promise15Graph();
        promise15GraphGoesRound();
        promise15GraphFull();
        promise16Sweep();
        C.end();
    }

    private static void promise14Copy() {
        GraphSaver x = new GraphSaver();
        x.row(2, 3);
        x.object(3);
        x.graft(0, 1, 1);
        C.due("copy", x.copy(0), 2);
        C.due("k", x.of(2, 4), 2);
        C.due("length", x.of(2, 2), 3);
        C.due("the same ref", x.ref(2, 1), 1);
        C.due("nothing", x.ref(2, 0), NOT);
        C.due("a copy of its own", x.graft(2, 1, -1), 1);
        C.due("a copy of its own", x.ref(0, 1), 1);
        C.due("no row", x.copy(1), -12);
        C.due("no object", x.copy(3), BAD);
        C.due("no object", x.copy(-1), BAD);
        C.due("own row", x.row(0, 1), 3);
        x.graft(3, 0, 3);
        C.due("copy of a row in itself", x.copy(3), 4);
        C.due("has the same ref", x.ref(4, 0), 3);
    }

    private static void promise14CopyFull() {
        GraphSaver x = new GraphSaver();
        x.row(2, 3);
        x.object(3);
        for (int i = 2; i < 30; i++) {
            C.due("copy", x.copy(0), i);
        }
        C.due("full", x.copy(0), FULL);
        C.due("full, no row", x.copy(1), -12);
        C.due("full, no object", x.copy(30), BAD);
    }

    private static void promise15Graph() {
        GraphSaver x = new GraphSaver();
        x.object(1);
        x.object(3);
        x.row(1, 2);
        x.write(0, 'f', 8);
        x.write(0, 'b', -8);
        x.graft(1, 0, 2);
        x.graft(1, 2, 0);
        x.graft(2, 1, 0);
        x.object(2);
        x.hold(0, 1);
        x.sweep();
        C.due("graph", x.graph(1), 3);
        C.due("row as second", x.of(4, 0), 4);
        C.due("leaf as third", x.of(5, 0), 1);
        C.due("ref 0", x.ref(3, 0), 4);
        C.due("ref 1", x.ref(3, 1), NOT);
        C.due("ref 2", x.ref(3, 2), 5);
        C.due("row's ref", x.ref(4, 1), 5);
        C.due("old ref stays", x.ref(1, 0), 2);
        C.due("field", x.read(5, 'b'), -8);
        C.due("field order", x.name(5, 0), 'f');
        C.due("alike", x.alike(1, 3), 1);
        C.due("how many", x.count(0), 6);
        C.due("a leaf alone", x.graph(0), 6);
        C.due("no object", x.graph(7), BAD);
        C.due("no object", x.graph(-1), BAD);
    }

    private static void promise15GraphGoesRound() {
        GraphSaver x = new GraphSaver();
        x.object(2);
        x.object(2);
        x.graft(0, 0, 1);
        x.graft(1, 1, 0);
        x.graft(1, 0, 1);
        C.due("graph from the second", x.graph(1), 2);
        C.due("to itself", x.ref(2, 0), 2);
        C.due("to the other", x.ref(2, 1), 3);
        C.due("and back", x.ref(3, 0), 2);
    }

    private static void promise15GraphFull() {
        GraphSaver x = new GraphSaver();
        for (int i = 0; i < 10; i++) {
            x.object(2);
            x.graft(i, 0, i - 1);
        }
        C.due("ten more", x.graph(9), 10);
        C.due("one more", x.object(1), 20);
        C.due("no room for ten", x.graph(9), FULL);
        C.due("nothing was made", x.count(0), 21);
        C.due("room for nine", x.graph(8), 21);
        C.due("thirty", x.count(0), 30);
        C.due("no room for one", x.graph(20), FULL);
        C.due("bad ahead", x.graph(30), BAD);
    }

    private static void promise16Sweep() {
        GraphSaver x = new GraphSaver();
        for (int i = 0; i < 6; i++) {
            x.object(2);
        }
        x.graft(0, 0, 1);
        x.graft(1, 1, 0);
        x.graft(2, 0, 3);
        x.graft(4, 0, 3);
        x.hold(7, 2);
        x.hold(3, 3);
        C.due("rings that nobody holds go, too", x.sweep(), 4);
        C.due("held ones stay", x.of(2, 0), 2);
        C.due("led to ones stay", x.ref(2, 0), 3);
        C.due("gone", x.of(4, 0), BAD);
        C.due("no more to sweep", x.sweep(), 0);
        x.hold(7, -1);
        C.due("one is held by a handle yet", x.sweep(), 1);
        x.hold(3, -1);
        C.due("nobody holds it", x.sweep(), 1);
        C.due("none", x.count(0), 0);
        C.due("none to sweep", x.sweep(), 0);
        C.due("new ones are empty", x.object(2), 0);
        C.due("new ones are empty", x.ref(0, 0), NOT);
    }
}
