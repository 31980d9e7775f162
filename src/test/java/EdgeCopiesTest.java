/**
 * The boundary cases that the document names for COPIED, GRAPHED, SWEPT and in promises 14 to 16:
 * a method a sentence, which stands ahead of it.
 */
public final class EdgeCopiesTest {
    private static final int BAD = GraphSaver.BAD, NOT = GraphSaver.NOT, FULL = GraphSaver.FULL;
    private static final int LEAST = Integer.MIN_VALUE, MOST = Integer.MAX_VALUE;
    private static final Check C = new Check();

    public static void main(String[] args) {
        copiedRowsOfAllSorts();
        copiedWithTheSameRefs();
        copiedItselfInIt();
        copyOfNoRow();
        copyOfNoObject();
        copyFull();
        copyAnswersInTheirOrder();
        graphedAlone();
        graphedNumbersAsTheyAreMet();
        graphedOnceEach();
        graphedWithItsFields();
        graphedFarBeyondStreams();
        graphOfNoObject();
        graphNoRoomForAll();
        graphRoomForJustAll();
        sweptByEachHandle();
        sweptWhereNobodyHolds();
        sweptRings();
        sweptNumbersAreFreeAgain();
        sweptObjectsAlone();
        C.end();
    }

    private static GraphSaver boxes(int n) {
        GraphSaver x = new GraphSaver();
        for (int i = 0; i < n; i++) {
            x.object(2);
        }
        return x;
    }

    /** "COPIED: a ROW: a new ROW": of each k and each length. */
    private static void copiedRowsOfAllSorts() {
        GraphSaver x = new GraphSaver();
        for (int k = 0; k <= 3; k++) {
            for (int n = 0; n <= 6; n++) {
                int row = x.row(k, n);
                int copied = x.copy(row);
                C.due("a new one", copied, row + 1);
                C.due("kind", x.of(copied, 0), 4);
                C.due("k", x.of(copied, 4), k);
                C.due("length", x.of(copied, 2), n);
                C.due("no place behind", x.ref(copied, n), -13);
                C.due("two rows", x.sweep(), 2);
            }
        }
    }

    /** "with the same REFS": the objects themselves, nothing where nothing is, and each row its own. */
    private static void copiedWithTheSameRefs() {
        GraphSaver x = boxes(3);
        x.row(0, 6);
        x.graft(3, 0, 2);
        x.graft(3, 2, 0);
        x.graft(3, 3, 2);
        x.graft(3, 5, 1);
        C.due("copy", x.copy(3), 4);
        int[] due = {2, NOT, 0, 2, NOT, 1};
        for (int i = 0; i < 6; i++) {
            C.due("ref " + i, x.ref(4, i), due[i]);
        }
        C.due("one more object alone", x.count(0), 5);
        C.due("the copy's ref", x.graft(4, 0, -1), 2);
        C.due("is not the row's", x.ref(3, 0), 2);
        C.due("the row's ref", x.graft(3, 5, 0), 1);
        C.due("is not the copy's", x.ref(4, 5), 1);
    }

    /** "with the same REFS": a row in itself is in its copy, which is not in itself. */
    private static void copiedItselfInIt() {
        GraphSaver x = new GraphSaver();
        x.row(0, 1);
        x.graft(0, 0, 0);
        C.due("copy", x.copy(0), 1);
        C.due("the row, not the copy", x.ref(1, 0), 0);
        C.due("they are two", x.told(1, 0), 2);
        C.due("the row stays", x.ref(0, 0), 0);
        C.due("a copy of the copy", x.copy(1), 2);
        C.due("the row, too", x.ref(2, 0), 0);
    }

    /** "-12 (no ROW)": each of the other kinds. */
    private static void copyOfNoRow() {
        GraphSaver x = new GraphSaver();
        for (int kind = 1; kind <= 3; kind++) {
            x.object(kind);
            C.due("copy of kind " + kind, x.copy(kind - 1), -12);
        }
        C.due("none was made", x.count(0), 3);
    }

    /** "BAD": no such number. */
    private static void copyOfNoObject() {
        GraphSaver x = new GraphSaver();
        C.due("none at all", x.copy(0), BAD);
        x.row(0, 0);
        for (int none : new int[] {LEAST, -2, -1, 1, 29, 30, MOST}) {
            C.due("copy of " + none, x.copy(none), BAD);
        }
        C.due("none was made", x.count(0), 1);
    }

    /** "FULL": 30; the last room is taken, and one that is free again. */
    private static void copyFull() {
        GraphSaver x = boxes(28);
        C.due("the 29th", x.row(0, 1), 28);
        C.due("the 30th", x.copy(28), 29);
        C.due("a 31st", x.copy(28), FULL);
        C.due("a copy of the last", x.copy(29), FULL);
        x.hold(0, 29);
        x.hold(1, 28);
        C.due("all but two go", x.sweep(), 28);
        C.due("room again", x.copy(29), 0);
    }

    /** "BAD; -12 (no ROW); FULL." */
    private static void copyAnswersInTheirOrder() {
        GraphSaver x = boxes(30);
        C.due("no row ahead of full", x.copy(0), -12);
        C.due("no object ahead of full", x.copy(30), BAD);
    }

    /** "GRAPHED: an OBJECT and all in its REACH": itself alone, of each kind. */
    private static void graphedAlone() {
        GraphSaver x = new GraphSaver();
        for (int kind = 1; kind <= 3; kind++) {
            x.object(kind);
        }
        x.row(3, 0);
        x.row(1, 6);
        for (int object = 0; object < 5; object++) {
            C.due("graph of " + object, x.graph(object), 5 + object);
            C.due("its kind", x.of(5 + object, 0), Math.min(4, object + 1));
            C.due("its k", x.of(5 + object, 4), x.of(object, 4));
            C.due("its refs", x.of(5 + object, 2), x.of(object, 2));
            C.due("they are alike", x.alike(object, 5 + object), 1);
        }
        C.due("one each", x.count(0), 10);
        C.due("no refs came", x.count(5), 0);
    }

    /** "numbers as they are met, as by SAVED": inner ones ahead, the least numbers that none has. */
    private static void graphedNumbersAsTheyAreMet() {
        GraphSaver x = boxes(10);
        x.object(3);
        int[] held = {1, 4, 6, 7, 9};
        for (int i = 0; i < 5; i++) {
            x.hold(i, held[i]);
        }
        C.due("0, 2, 3, 5, 8, 10 are free", x.sweep(), 6);
        x.graft(9, 0, 4);
        x.graft(9, 1, 1);
        x.graft(4, 1, 7);
        x.graft(7, 0, 6);
        C.due("graph", x.graph(9), 0);
        C.due("the second met", x.ref(0, 0), 2);
        C.due("the third met", x.ref(2, 1), 3);
        C.due("the fourth met", x.ref(3, 0), 5);
        C.due("the fifth met", x.ref(0, 1), 8);
        C.due("no others", x.count(0), 10);
        C.due("the old ones stay", x.ref(9, 0), 4);
        C.due("the old ones stay", x.ref(9, 1), 1);
    }

    /** "as new ones ALIKE to them": one met twice is one in the copy, too; rings are rings. */
    private static void graphedOnceEach() {
        GraphSaver x = boxes(2);
        x.object(1);
        x.graft(0, 0, 2);
        x.graft(0, 1, 1);
        x.graft(1, 0, 2);
        x.graft(1, 1, 0);
        C.due("graph", x.graph(0), 3);
        C.due("three more", x.count(0), 6);
        C.due("the leaf", x.ref(3, 0), 4);
        C.due("the leaf, the same", x.ref(5, 0), 4);
        C.due("back to the first", x.ref(5, 1), 3);
        C.due("alike", x.alike(0, 3), 1);
        C.due("no way to the old ones", x.reaches(0, 3), 0);
        C.due("no way from the old ones", x.reaches(3, 0), 0);
        x.row(0, 1);
        x.graft(6, 0, 6);
        C.due("a row in itself", x.graph(6), 7);
        C.due("its copy is in itself", x.ref(7, 0), 7);
    }

    /** "as new ones ALIKE to them": the same fields in the same order, whatever the schemas say now. */
    private static void graphedWithItsFields() {
        GraphSaver x = new GraphSaver();
        x.schema(1, 1, 'a', 1);
        x.schema(1, 1, 'b', 2);
        x.object(1);
        x.forget(0, 'a');
        x.write(0, 'h', -99);
        x.write(0, 'c', 0);
        x.schema(1, 2, 'g', 7);
        x.version(1, 2);
        C.due("graph", x.graph(0), 1);
        C.streams(x, 1, "L2b2h-99c0.");
        x.write(1, 'h', 5);
        x.forget(1, 'b');
        C.streams(x, 0, "L2b2h-99c0.");
        GraphSaver y = boxes(1);
        C.due("no fields", y.graph(0), 1);
        y.write(0, 'a', 1);
        C.due("its own fields", y.of(1, 1), 0);
    }

    /** A graph that is too long for a stream, and too deep to be loaded, is copied all the same. */
    private static void graphedFarBeyondStreams() {
        GraphSaver x = boxes(15);
        for (int i = 0; i < 15; i++) {
            for (int name = 'a'; name <= 'e'; name++) {
                x.write(i, name, -50 - i);
            }
            x.graft(i, 1, i + 1 < 15 ? i + 1 : -1);
        }
        C.due("not SAVED", x.told(0, 4), FULL);
        C.due("graph", x.graph(0), 15);
        C.due("alike", x.alike(15, 0), 1);
        C.due("deep", x.told(15, 3), 15);
        C.due("the last one's field", x.read(29, 'e'), -64);
    }

    /** "BAD": no such number. */
    private static void graphOfNoObject() {
        GraphSaver x = new GraphSaver();
        C.due("none at all", x.graph(0), BAD);
        x.object(2);
        for (int none : new int[] {LEAST, -2, -1, 1, 29, 30, MOST}) {
            C.due("graph of " + none, x.graph(none), BAD);
        }
        C.due("none was made", x.count(0), 1);
    }

    /** "FULL: no room for all": none is made then; BAD goes ahead. */
    private static void graphNoRoomForAll() {
        GraphSaver x = boxes(16);
        for (int i = 0; i < 15; i++) {
            x.graft(i, 0, i + 1);
        }
        C.due("room for 14, not for 16", x.graph(0), FULL);
        C.due("none was made", x.count(0), 16);
        C.due("no ref was made", x.count(5), 15);
        C.due("room for 14, not for 15", x.graph(1), FULL);
        C.due("room for 14", x.graph(2), 16);
        C.due("thirty", x.count(0), 30);
        C.due("no room for one", x.graph(15), FULL);
        C.due("no such object, no room", x.graph(30), BAD);
    }

    /** "FULL: no room for all": just as many as there are is room. */
    private static void graphRoomForJustAll() {
        GraphSaver x = boxes(15);
        for (int i = 0; i < 14; i++) {
            x.graft(i, 1, i + 1);
        }
        x.graft(14, 0, 0);
        C.due("room for 15", x.graph(0), 15);
        C.due("thirty", x.count(0), 30);
        C.due("alike", x.alike(0, 15), 1);
        C.due("round", x.ref(29, 0), 15);
    }

    /** "SWEPT: OBJECTS in no REACH of one that a HANDLE holds": each handle holds, 0 and 7 too. */
    private static void sweptByEachHandle() {
        for (int handle = 0; handle < 8; handle++) {
            GraphSaver x = boxes(30);
            x.graft(29, 1, 0);
            x.graft(0, 0, 13);
            C.due("hold", x.hold(handle, 29), 1);
            C.due("27 are no more", x.sweep(), 27);
            C.due("held", x.of(29, 0), 2);
            C.due("led to", x.of(0, 0), 2);
            C.due("led to by that", x.of(13, 0), 2);
            C.due("not led to", x.of(1, 0), BAD);
            C.due("none more", x.sweep(), 0);
            C.due("refs stay", x.count(5), 2);
        }
    }

    /** "how many are no more": all, if nobody holds; none, if there are none. */
    private static void sweptWhereNobodyHolds() {
        GraphSaver x = boxes(30);
        C.due("all thirty", x.sweep(), 30);
        C.due("none is left", x.count(0), 0);
        C.due("none to go", x.sweep(), 0);
        C.due("none at first", new GraphSaver().sweep(), 0);
        GraphSaver y = boxes(8);
        for (int i = 0; i < 8; i++) {
            y.hold(i, i);
        }
        C.due("all are held", y.sweep(), 0);
        y.hold(4, 3);
        C.due("one is not, another twice", y.sweep(), 1);
        C.due("it is gone", y.of(4, 0), BAD);
    }

    /** "in no REACH of one that a HANDLE holds": a ring by itself goes, and one that leads to a held one. */
    private static void sweptRings() {
        GraphSaver x = boxes(6);
        x.graft(0, 0, 1);
        x.graft(1, 0, 0);
        x.graft(1, 1, 2);
        x.graft(2, 0, 3);
        x.graft(3, 0, 2);
        x.graft(4, 0, 4);
        x.hold(0, 3);
        C.due("a ring ahead of it, one by itself, one alone", x.sweep(), 4);
        C.due("the held ring stays", x.ref(2, 0), 3);
        C.due("the held ring stays", x.ref(3, 0), 2);
    }

    /** A number that is free again is given to a new one, which has nothing of the old one. */
    private static void sweptNumbersAreFreeAgain() {
        GraphSaver x = boxes(2);
        x.write(0, 'a', 5);
        x.graft(0, 0, 1);
        x.graft(0, 1, 0);
        x.sweep();
        C.due("fields of none", x.count(4), 0);
        C.due("refs of none", x.count(5), 0);
        C.due("a new one", x.object(2), 0);
        C.due("no field", x.read(0, 'a'), GraphSaver.VOID);
        C.due("nothing", x.ref(0, 0), NOT);
        C.due("nothing", x.ref(0, 1), NOT);
        x.sweep();
        C.due("a row in its place", x.row(0, 2), 0);
        C.due("its kind", x.of(0, 0), 4);
        x.sweep();
        C.due("a leaf in its place", x.object(1), 0);
        C.due("no ref", x.of(0, 2), 0);
        C.due("no row any more", x.of(0, 4), NOT);
    }

    /** OBJECTS are no more: schemas, versions, shelves, handles, THE FAIL and the image stay. */
    private static void sweptObjectsAlone() {
        GraphSaver x = boxes(2);
        x.schema(2, 1, 'a', 3);
        x.version(2, 2);
        C.fails(x, "--", 7, 1);
        x.hold(5, 1);
        x.image();
        C.due("one goes", x.sweep(), 1);
        C.due("schema", x.byDefault(2, 1, 'a'), 3);
        C.due("handle", x.held(5), 1);
        C.due("shelf", x.count(8), 1);
        C.causesAre(x, "the fail", 7, 1);
        C.due("version", x.version(2, 1), 2);
        C.due("image", x.back(), 2);
    }
}
