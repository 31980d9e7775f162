/** Promises 28 to 33: images, handles, counts. */
public final class ImagesTest {
    private static final int BAD = GraphSaver.BAD, NOT = GraphSaver.NOT, STATE = GraphSaver.STATE;
    private static final Check C = new Check();

    public static void main(String[] args) {
        promise28And29Image();
        promise29BackAndHandles();
        promise29BackKeepsShelves();
        promise30Hold();
        promise31Held();
        promise32Tells();
        promise33Count();
        constants();
        C.end();
    }

    private static void promise28And29Image() {
        GraphSaver x = new GraphSaver();
        C.due("none kept", x.back(), STATE);
        C.due("image of none", x.image(), 0);
        C.due("back to none", x.back(), 0);
        x.schema(2, 2, 'a', 5);
        x.version(2, 2);
        x.object(2);
        x.row(2, 2);
        x.graft(1, 1, 0);
        C.due("image", x.image(), 2);
        x.graft(1, 1, -1);
        x.write(0, 'a', 6);
        x.write(0, 'b', 7);
        x.schema(2, 2, 'b', 8);
        x.version(2, 3);
        x.object(1);
        C.due("back", x.back(), 2);
        C.due("ref", x.ref(1, 1), 0);
        C.due("field", x.read(0, 'a'), 5);
        C.due("fields", x.of(0, 1), 1);
        C.due("schema", x.byDefault(2, 2, 'b'), GraphSaver.VOID);
        C.due("names", x.count(6), 1);
        C.due("version", x.version(2, 1), 2);
        C.due("gone", x.of(2, 0), BAD);
        C.due("sweep", x.sweep(), 2);
        x.schema(1, 1, 'a', 1);
        x.schema(3, 3, 'a', 1);
        C.due("it stays kept", x.back(), 2);
        C.due("all schemas", x.count(6), 1);
        C.due("it stays as it was", x.ref(1, 1), 0);
        x.object(3);
        C.due("a newer one", x.image(), 3);
        x.sweep();
        C.due("the newer one", x.back(), 3);
    }

    private static void promise29BackAndHandles() {
        GraphSaver x = new GraphSaver();
        x.object(1);
        x.object(1);
        x.hold(0, 0);
        x.image();
        x.object(2);
        x.hold(1, 2);
        x.hold(7, 2);
        x.hold(2, 1);
        C.due("back", x.back(), 2);
        C.due("it stays", x.held(0), 0);
        C.due("no such number", x.held(1), NOT);
        C.due("no such number", x.held(7), NOT);
        C.due("handles are not in the image", x.held(2), 1);
        C.due("two hold", x.count(7), 2);
        C.due("the number again", x.object(3), 2);
        C.due("it holds nothing yet", x.held(1), NOT);
        x.hold(0, 2);
        C.due("back", x.back(), 2);
        C.due("no such number", x.held(0), NOT);
        x.hold(2, -1);
        C.due("back", x.back(), 2);
        C.due("nothing stays nothing", x.held(2), NOT);
    }

    private static void promise29BackKeepsShelves() {
        GraphSaver x = new GraphSaver();
        x.image();
        C.lay(x, 1, "L1.");
        C.due("load", x.load(1), 0);
        C.due("back", x.back(), 0);
        C.holds(x, 1, "L1.");
        C.due("one shelf", x.count(8), 1);
    }

    private static void promise30Hold() {
        GraphSaver x = new GraphSaver();
        x.object(1);
        C.due("hold", x.hold(0, 0), 1);
        C.due("hold", x.hold(7, 0), 1);
        C.due("hold nothing", x.hold(0, -1), 1);
        C.due("now nothing", x.held(0), NOT);
        C.due("handle -1", x.hold(-1, 0), BAD);
        C.due("handle 8", x.hold(8, 0), BAD);
        C.due("object 1", x.hold(7, 1), BAD);
        C.due("object -2", x.hold(7, -2), BAD);
        C.due("BAD changes nothing", x.held(7), 0);
    }

    private static void promise31Held() {
        GraphSaver x = new GraphSaver();
        x.object(1);
        x.object(1);
        x.hold(3, 1);
        C.due("held", x.held(3), 1);
        C.due("nothing", x.held(2), NOT);
        C.due("handle 8", x.held(8), BAD);
        C.due("handle -1", x.held(-1), BAD);
    }

    private static void promise32Tells() {
        GraphSaver x = new GraphSaver();
        x.object(1);
        x.object(2);
        x.object(3);
        x.row(3, 4);
        x.write(0, 'a', 1);
        x.graft(1, 0, 3);
        x.graft(2, 2, 0);
        int[][] due = {{1, 1, -12, -12, -12}, {2, -12, 3, -12, -12}, {3, -12, NOT, 0, -12}, {4, -12, -12, -12, 34}};
        for (int object = 0; object < 4; object++) {
            x.hold(object, object);
            for (int as = 0; as <= 4; as++) {
                C.due(object + " taken for " + as, x.tells(object, as), due[object][as]);
            }
        }
        x.graft(2, 2, -1);
        C.due("no third", x.tells(2, 3), NOT);
        C.due("holds nothing", x.tells(4, 0), -11);
        C.due("holds nothing", x.tells(4, 4), -11);
        C.due("as 5", x.tells(0, 5), BAD);
        C.due("as -1", x.tells(4, -1), BAD);
        C.due("handle 8", x.tells(8, 0), BAD);
        C.due("handle -1", x.tells(-1, 0), BAD);
    }

    private static void promise33Count() {
        GraphSaver x = new GraphSaver();
        x.schema(1, 1, 'a', 1);
        x.schema(1, 1, 'b', 1);
        x.schema(3, 3, 'b', 1);
        x.object(1);
        x.object(1);
        x.object(1);
        x.object(2);
        x.object(3);
        x.row(0, 4);
        x.graft(3, 0, 3);
        x.graft(4, 2, 0);
        x.graft(5, 0, 0);
        x.graft(5, 3, 0);
        x.hold(1, 3);
        x.hold(2, 3);
        x.shelf(0, 0);
        x.shelf(1, 4);
        x.save(2, 0);
        int[] due = {6, 3, 2, 1, 6, 4, 3, 2, 3, BAD};
        for (int what = 0; what < 10; what++) {
            C.due("count(" + what + ")", x.count(what), due[what]);
        }
        C.due("count(-1)", x.count(-1), BAD);
        C.due("refs of the first and the last object", refsOfLateObjects(), 3);
        x.sweep();
        int[] after = {1, 0, 1, 0, 0, 1, 3, 2, 3};
        for (int what = 0; what < 9; what++) {
            C.due("count(" + what + ") after sweep()", x.count(what), after[what]);
        }
    }

    /** References of the objects 0 and 29 count, too. */
    private static int refsOfLateObjects() {
        GraphSaver x = new GraphSaver();
        for (int i = 0; i < 30; i++) {
            x.object(3);
        }
        x.graft(0, 2, 29);
        x.graft(29, 0, 29);
        x.graft(29, 1, 0);
        return x.count(5);
    }

    private static void constants() {
        C.due("BAD", GraphSaver.BAD, -1);
        C.due("NOT", GraphSaver.NOT, -2);
        C.due("FULL", GraphSaver.FULL, -3);
        C.due("STATE", GraphSaver.STATE, -5);
        C.due("VOID", GraphSaver.VOID, -2000000000);
    }
}
