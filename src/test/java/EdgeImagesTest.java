/**
 * The boundary cases that the document names for AN IMAGE, HANDLES, what an OBJECT in a HANDLE is
 * taken for, and in promises 28 to 33: a method a sentence, which stands ahead of it.
 */
public final class EdgeImagesTest {
    private static final int BAD = GraphSaver.BAD, NOT = GraphSaver.NOT, FULL = GraphSaver.FULL;
    private static final int STATE = GraphSaver.STATE, VOID = GraphSaver.VOID;
    private static final int LEAST = Integer.MIN_VALUE, MOST = Integer.MAX_VALUE;
    private static final int[] NO_HANDLES = {LEAST, -2, -1, 8, 9, MOST};
    private static final Check C = new Check();

    public static void main(String[] args) {
        noImageAtFirst();
        imageOfNone();
        imageOfThirty();
        imageKeepsObjects();
        imageKeepsFieldsInOrder();
        imageKeepsSchemasAndVersions();
        imageStaysAsItWas();
        imageIsLaidBackAgain();
        newerImage();
        backAndHandles();
        backAndEachHandle();
        backKeepsShelvesAndTheFail();
        nothingInHandlesAtFirst();
        handles0To7();
        holdNothing();
        holdOfNoObject();
        heldByTwoHandles();
        takenForAny();
        takenForALeaf();
        takenForABox();
        takenForACrate();
        takenForARow();
        tellsAnswersInTheirOrder();
        countsAtFirst();
        countsOfEachSort();
        countsAtTheirMost();
        countOfNoSort();
        C.end();
    }

    private static GraphSaver boxes(int n) {
        GraphSaver x = new GraphSaver();
        for (int i = 0; i < n; i++) {
            x.object(2);
        }
        return x;
    }

    /** "STATE: there is none." It changes nothing. */
    private static void noImageAtFirst() {
        GraphSaver x = boxes(2);
        x.hold(0, 1);
        C.due("none", x.back(), STATE);
        C.due("objects stay", x.count(0), 2);
        C.due("handles stay", x.held(0), 1);
        C.due("none yet", x.back(), STATE);
        C.due("image", x.image(), 2);
        C.due("there is one", x.back(), 2);
    }

    /** An image of no objects is one: all are no more when it is laid back. */
    private static void imageOfNone() {
        GraphSaver x = new GraphSaver();
        C.due("image", x.image(), 0);
        C.due("back", x.back(), 0);
        x.object(1);
        x.row(0, 1);
        x.graft(1, 0, 0);
        x.hold(3, 1);
        x.schema(1, 1, 'a', 1);
        x.version(2, 3);
        C.due("back", x.back(), 0);
        C.due("no objects", x.count(0), 0);
        C.due("no fields", x.count(4), 0);
        C.due("no refs", x.count(5), 0);
        C.due("no names", x.count(6), 0);
        C.due("no handle holds", x.count(7), 0);
        C.due("version", x.version(2, 1), 1);
        C.due("the first again", x.object(3), 0);
    }

    /** An image of all thirty. */
    private static void imageOfThirty() {
        GraphSaver x = boxes(30);
        for (int i = 0; i < 30; i++) {
            x.graft(i, 1, 29 - i);
            x.write(i, 'a', i);
        }
        C.due("image", x.image(), 30);
        C.due("all go", x.sweep(), 30);
        C.due("all are back", x.back(), 30);
        for (int i = 0; i < 30; i++) {
            C.due("ref", x.ref(i, 1), 29 - i);
            C.due("field", x.read(i, 'a'), i);
        }
        C.due("no room", x.object(1), FULL);
    }

    /** "AN IMAGE keeps OBJECTS": kinds, k, lengths, refs, and which numbers are free. */
    private static void imageKeepsObjects() {
        GraphSaver x = new GraphSaver();
        x.object(1);
        x.row(2, 3);
        x.object(3);
        x.object(2);
        x.graft(1, 2, 2);
        x.hold(0, 1);
        C.due("0 and 3 go", x.sweep(), 2);
        C.due("image", x.image(), 2);
        C.due("a new 0", x.row(0, 6), 0);
        C.due("a new 3", x.object(1), 3);
        x.hold(0, 3);
        C.due("all but it go", x.sweep(), 3);
        C.due("a leaf for a row", x.object(1), 0);
        C.due("a leaf for a row", x.object(1), 1);
        C.due("back", x.back(), 2);
        C.due("0 is free", x.of(0, 0), BAD);
        C.due("3 is free", x.of(3, 0), BAD);
        C.due("kind", x.of(1, 0), 4);
        C.due("k", x.of(1, 4), 2);
        C.due("length", x.of(1, 2), 3);
        C.due("ref", x.ref(1, 2), 2);
        C.due("nothing", x.ref(1, 0), NOT);
        C.due("kind", x.of(2, 0), 3);
        C.due("the least number", x.object(1), 0);
        C.due("the next", x.object(1), 3);
    }

    /** Fields come back in the order that they had, those that were forgotten too. */
    private static void imageKeepsFieldsInOrder() {
        GraphSaver x = boxes(1);
        for (int name = 'h'; name >= 'c'; name--) {
            x.write(0, name, name - 'a' - 10);
        }
        x.image();
        String signs = "B1h-3g-4f-5e-6d-7c-8.--";
        C.streams(x, 0, signs);
        x.forget(0, 'h');
        x.write(0, 'a', 1);
        x.write(0, 'f', 99);
        x.back();
        C.streams(x, 0, signs);
    }

    /** "SCHEMAS, CURRENT VERSIONS". */
    private static void imageKeepsSchemasAndVersions() {
        GraphSaver x = new GraphSaver();
        x.schema(1, 1, 'b', 1);
        x.schema(1, 1, 'a', 2);
        x.schema(3, 3, 'h', -99);
        x.version(3, 3);
        C.due("image", x.image(), 0);
        x.schema(1, 1, 'c', 3);
        x.schema(1, 1, 'd', 4);
        x.schema(2, 2, 'a', 5);
        x.version(3, 2);
        x.version(1, 2);
        C.due("back", x.back(), 0);
        C.due("names", x.count(6), 3);
        C.due("one that came since", x.byDefault(1, 1, 'c'), VOID);
        C.due("one that came since", x.byDefault(2, 2, 'a'), VOID);
        C.due("one that was", x.byDefault(3, 3, 'h'), -99);
        C.due("there is room again", x.schema(1, 1, 'e', 3), 3);
        C.due("and again", x.schema(1, 1, 'f', 3), 4);
        C.due("the order that was", x.object(1), 0);
        C.streams(x, 0, "L1b1a2e3f3.");
        C.due("a crate's version", x.version(3, 1), 3);
        C.due("a box's version", x.version(2, 1), 1);
    }

    /** What is changed behind the image, or laid back from it, doesn't change it. */
    private static void imageStaysAsItWas() {
        GraphSaver x = boxes(2);
        x.image();
        for (int round = 0; round < 2; round++) {
            x.write(0, 'a', 1);
            x.graft(0, 0, 1);
            x.graft(1, 1, 1);
            x.schema(2, 1, 'a', 1);
            x.object(2);
            C.due("back", x.back(), 2);
            C.due("no fields", x.count(4), 0);
            C.due("no refs", x.count(5), 0);
            C.due("no names", x.count(6), 0);
        }
    }

    /** "It is laid back": it stays kept, also behind a sweep and a load that fails. */
    private static void imageIsLaidBackAgain() {
        GraphSaver x = boxes(3);
        x.image();
        for (int round = 0; round < 3; round++) {
            x.sweep();
            C.fails(x, "B1.-L1.x", 7, 7);
            C.due("back", x.back(), 3);
            C.due("back at once", x.back(), 3);
        }
    }

    /** "AN IMAGE is kept": one; a newer one takes the place of the older. */
    private static void newerImage() {
        GraphSaver x = boxes(3);
        x.image();
        x.sweep();
        x.object(1);
        C.due("a newer one", x.image(), 1);
        x.object(1);
        C.due("the newer one", x.back(), 1);
        C.due("a leaf", x.of(0, 0), 1);
        C.due("no others", x.of(1, 0), BAD);
        x.sweep();
        C.due("of none", x.image(), 0);
        x.object(1);
        C.due("the newest", x.back(), 0);
    }

    /** "(HANDLES of numbers of which there is no OBJECT then hold nothing". Others hold what has the number. */
    private static void backAndHandles() {
        GraphSaver x = boxes(3);
        x.hold(0, 0);
        x.hold(1, 2);
        C.due("1 goes", x.sweep(), 1);
        x.image();
        for (int i = 0; i < 3; i++) {
            x.object(1);
        }
        for (int handle = 0; handle < 5; handle++) {
            x.hold(handle, handle);
        }
        x.hold(7, 4);
        C.due("back", x.back(), 2);
        int[] due = {0, NOT, 2, NOT, NOT, NOT, NOT, NOT};
        for (int handle = 0; handle < 8; handle++) {
            C.due("handle " + handle, x.held(handle), due[handle]);
        }
        C.due("two", x.count(7), 2);
        C.due("nothing there", x.tells(7, 0), -11);
        C.due("1 again", x.object(3), 1);
        C.due("nobody holds it", x.sweep(), 1);
        x.hold(0, -1);
        x.sweep();
        C.due("0 is back", x.back(), 2);
        C.due("handles are not kept", x.held(0), NOT);
    }

    /** The same for each of the eight, beside seven that go on holding. */
    private static void backAndEachHandle() {
        for (int gone = 0; gone < 8; gone++) {
            GraphSaver x = boxes(1);
            x.image();
            x.object(1);
            for (int handle = 0; handle < 8; handle++) {
                x.hold(handle, handle == gone ? 1 : 0);
            }
            C.due("back", x.back(), 1);
            for (int handle = 0; handle < 8; handle++) {
                C.due("handle " + handle, x.held(handle), handle == gone ? NOT : 0);
            }
            C.due("seven", x.count(7), 7);
        }
    }

    /** "SHELVES, THE FAIL stay)". */
    private static void backKeepsShelvesAndTheFail() {
        GraphSaver x = boxes(1);
        C.fails(x, "x", 1, 0);
        C.lay(x, 0, "abc");
        x.image();
        C.lay(x, 0, "de");
        x.shelf(1, 3);
        C.fails(x, "B1.-y", 8, 0, 1, 4);
        x.back();
        C.holds(x, 0, "de");
        C.due("a shelf that held nothing then", x.sign(1, -1), 3);
        C.holds(x, 3, "B1.-y");
        C.due("three", x.count(8), 3);
        C.causesAre(x, "the fail", 8, 0, 1, 4);
        x.shelf(0, -1);
        x.back();
        C.due("a shelf that held something then", x.sign(0, -1), -11);
    }

    /** "HANDLES 0 .. 7 hold an OBJECT, or nothing (at first)." */
    private static void nothingInHandlesAtFirst() {
        GraphSaver x = boxes(1);
        for (int handle = 0; handle < 8; handle++) {
            C.due("held", x.held(handle), NOT);
            for (int as = 0; as <= 4; as++) {
                C.due("tells", x.tells(handle, as), -11);
            }
        }
        C.due("none holds", x.count(7), 0);
    }

    /** "HANDLES 0 .. 7": each its own object, and there is no other handle. */
    private static void handles0To7() {
        GraphSaver x = boxes(30);
        for (int handle = 0; handle < 8; handle++) {
            C.due("hold", x.hold(handle, 29 - handle), 1);
            C.due("so many", x.count(7), handle + 1);
        }
        for (int none : NO_HANDLES) {
            C.due("hold " + none, x.hold(none, 0), BAD);
            C.due("hold nothing " + none, x.hold(none, -1), BAD);
            C.due("held " + none, x.held(none), BAD);
            C.due("tells " + none, x.tells(none, 0), BAD);
        }
        for (int handle = 0; handle < 8; handle++) {
            C.due("held", x.held(handle), 29 - handle);
        }
        x.hold(7, 0);
        C.due("object 0 is held", x.held(7), 0);
        C.due("object 0 is something", x.count(7), 8);
    }

    /** "or nothing (object -1): 1". */
    private static void holdNothing() {
        GraphSaver x = boxes(1);
        C.due("nothing where nothing is", x.hold(2, -1), 1);
        C.due("held", x.held(2), NOT);
        C.due("hold", x.hold(2, 0), 1);
        C.due("held", x.held(2), 0);
        C.due("hold again", x.hold(2, 0), 1);
        C.due("nothing", x.hold(2, -1), 1);
        C.due("held", x.held(2), NOT);
        C.due("none holds", x.count(7), 0);
        C.due("the object stays until it is swept", x.count(0), 1);
    }

    /** "BAD": an object that isn't there; what was held stays. */
    private static void holdOfNoObject() {
        GraphSaver x = boxes(2);
        x.hold(0, 1);
        for (int none : new int[] {LEAST, -3, -2, 2, 29, 30, MOST}) {
            C.due("hold " + none, x.hold(0, none), BAD);
            C.due("hold " + none + " where nothing is", x.hold(1, none), BAD);
        }
        C.due("it stays", x.held(0), 1);
        C.due("still nothing", x.held(1), NOT);
        x.sweep();
        C.due("one that is no more", x.hold(1, 0), BAD);
    }

    /** An object in several handles stays as long as one of them holds it. */
    private static void heldByTwoHandles() {
        GraphSaver x = boxes(1);
        x.hold(0, 0);
        x.hold(7, 0);
        C.due("two hold", x.count(7), 2);
        x.hold(0, -1);
        C.due("one holds", x.sweep(), 0);
        C.due("held", x.held(7), 0);
        x.hold(7, -1);
        C.due("none holds", x.sweep(), 1);
    }

    /** Handles 0 to 3 hold a leaf, a box, a crate, a row, which have these numbers. */
    private static GraphSaver oneOfEach() {
        GraphSaver x = new GraphSaver();
        for (int kind = 1; kind <= 3; kind++) {
            x.object(kind);
        }
        x.row(0, 0);
        for (int i = 0; i < 4; i++) {
            x.hold(i, i);
        }
        return x;
    }

    /** "0 any: its KIND". */
    private static void takenForAny() {
        GraphSaver x = oneOfEach();
        for (int i = 0; i < 4; i++) {
            C.due("kind", x.tells(i, 0), i + 1);
        }
    }

    /** "1 a LEAF: how many FIELDS": none up to six; "-12 it is of another sort". */
    private static void takenForALeaf() {
        GraphSaver x = oneOfEach();
        for (int fields = 0; fields <= 6; fields++) {
            C.due("fields", x.tells(0, 1), fields);
            x.write(0, 'a' + fields, 1);
        }
        for (int i = 1; i < 4; i++) {
            C.due("another sort", x.tells(i, 1), -12);
        }
    }

    /** "2 a BOX, or a CRATE: its first REF (NOT: nothing)". */
    private static void takenForABox() {
        GraphSaver x = oneOfEach();
        for (int i = 1; i <= 2; i++) {
            C.due("nothing", x.tells(i, 2), NOT);
            x.graft(i, 1, 3);
            C.due("its first alone", x.tells(i, 2), NOT);
            x.graft(i, 0, 0);
            C.due("object 0", x.tells(i, 2), 0);
            x.graft(i, 0, i);
            C.due("itself", x.tells(i, 2), i);
        }
        C.due("a leaf", x.tells(0, 2), -12);
        C.due("a row", x.tells(3, 2), -12);
    }

    /** "3 a CRATE: its third". */
    private static void takenForACrate() {
        GraphSaver x = oneOfEach();
        C.due("nothing", x.tells(2, 3), NOT);
        x.graft(2, 0, 1);
        x.graft(2, 1, 1);
        C.due("its third alone", x.tells(2, 3), NOT);
        x.graft(2, 2, 0);
        C.due("object 0", x.tells(2, 3), 0);
        C.due("a box is none", x.tells(1, 3), -12);
        C.due("a leaf", x.tells(0, 3), -12);
        C.due("a row", x.tells(3, 3), -12);
    }

    /** "4 a ROW: 10 times k, and its length": 0 up to 36. */
    private static void takenForARow() {
        for (int k = 0; k <= 3; k++) {
            GraphSaver x = new GraphSaver();
            for (int n = 0; n <= 6; n++) {
                x.hold(7, x.row(k, n));
                C.due("a row for " + k + " of " + n, x.tells(7, 4), 10 * k + n);
            }
        }
        GraphSaver y = oneOfEach();
        for (int i = 0; i < 3; i++) {
            C.due("another sort", y.tells(i, 4), -12);
        }
    }

    /** "BAD; -11; -12." */
    private static void tellsAnswersInTheirOrder() {
        GraphSaver x = oneOfEach();
        for (int as : new int[] {LEAST, -1, 5, 6, MOST}) {
            C.due("as " + as, x.tells(0, as), BAD);
            C.due("as " + as + ", nothing there", x.tells(4, as), BAD);
            C.due("as " + as + ", no handle", x.tells(8, as), BAD);
        }
        for (int as = 0; as <= 4; as++) {
            C.due("nothing there", x.tells(4, as), -11);
            C.due("no handle", x.tells(8, as), BAD);
            C.due("no handle", x.tells(-1, as), BAD);
        }
    }

    /** "No OBJECTS." And nothing else that could be counted. */
    private static void countsAtFirst() {
        GraphSaver x = new GraphSaver();
        for (int what = 0; what <= 8; what++) {
            C.due("count " + what, x.count(what), 0);
        }
        for (int object = 0; object < 30; object++) {
            C.due("no object", x.of(object, 0), BAD);
        }
        GraphSaver y = boxes(2);
        C.due("another object of the class has its own", y.count(0) + 10 * x.count(0), 2);
    }

    private static void countsAre(String what, GraphSaver x, int... due) {
        for (int i = 0; i < due.length; i++) {
            C.due(what + ", count(" + i + ")", x.count(i), due[i]);
        }
    }

    /** "How many: 0 OBJECTS, 1 LEAVES, 2 BOXES and CRATES, 3 ROWS, ..": each call changes its own. */
    private static void countsOfEachSort() {
        GraphSaver x = new GraphSaver();
        x.object(1);
        countsAre("a leaf", x, 1, 1, 0, 0, 0, 0, 0, 0, 0);
        x.object(2);
        countsAre("a box", x, 2, 1, 1, 0, 0, 0, 0, 0, 0);
        x.object(3);
        countsAre("a crate", x, 3, 1, 2, 0, 0, 0, 0, 0, 0);
        x.row(0, 6);
        countsAre("a row", x, 4, 1, 2, 1, 0, 0, 0, 0, 0);
        x.write(0, 'a', 0);
        countsAre("a field", x, 4, 1, 2, 1, 1, 0, 0, 0, 0);
        x.graft(3, 5, 3);
        countsAre("a ref", x, 4, 1, 2, 1, 1, 1, 0, 0, 0);
        x.graft(3, 4, 3);
        countsAre("another for the same", x, 4, 1, 2, 1, 1, 2, 0, 0, 0);
        x.schema(3, 3, 'h', 0);
        countsAre("a name", x, 4, 1, 2, 1, 1, 2, 1, 0, 0);
        x.hold(7, 0);
        countsAre("a handle", x, 4, 1, 2, 1, 1, 2, 1, 1, 0);
        x.shelf(3, 0);
        countsAre("a shelf of no signs", x, 4, 1, 2, 1, 1, 2, 1, 1, 1);
        x.graft(3, 5, -1);
        x.forget(0, 'a');
        countsAre("they go", x, 4, 1, 2, 1, 0, 1, 1, 1, 1);
    }

    /** All that there can be: 30 objects, 180 fields or refs, 36 names, 8 handles, 4 shelves. */
    private static void countsAtTheirMost() {
        GraphSaver x = boxes(30);
        for (int i = 0; i < 30; i++) {
            for (int name = 'a'; name <= 'f'; name++) {
                x.write(i, name, 0);
            }
        }
        for (int kind = 1; kind <= 3; kind++) {
            for (int version = 1; version <= 3; version++) {
                for (int name = 'a'; name <= 'd'; name++) {
                    x.schema(kind, version, name, 1);
                }
            }
        }
        for (int i = 0; i < 8; i++) {
            x.hold(i, 0);
            x.shelf(i, 200);
        }
        countsAre("all", x, 30, 0, 30, 0, 180, 0, 36, 8, 4);
        GraphSaver y = new GraphSaver();
        for (int i = 0; i < 30; i++) {
            y.row(0, 6);
            for (int place = 0; place < 6; place++) {
                y.graft(i, place, i);
            }
        }
        countsAre("rows", y, 30, 0, 0, 30, 0, 180, 0, 0, 0);
    }

    /** "BAD." */
    private static void countOfNoSort() {
        GraphSaver x = boxes(1);
        for (int what : new int[] {LEAST, -2, -1, 9, 10, MOST}) {
            C.due("count " + what, x.count(what), BAD);
        }
    }
}
