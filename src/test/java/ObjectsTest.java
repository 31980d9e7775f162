/** Promises 1 to 13: the constructor, schemas, objects. */
public final class ObjectsTest {
    private static final int BAD = GraphSaver.BAD, NOT = GraphSaver.NOT, FULL = GraphSaver.FULL;
    private static final int STATE = GraphSaver.STATE, VOID = GraphSaver.VOID;
    private static final Check C = new Check();

    public static void main(String[] args) {
        promise1New();
        promise2Schema();
        promise3Version();
        promise4ByDefault();
        promise5Object();
        promise6Row();
        promise7Write();
        promise8Read();
        promise9Forget();
        promise10Graft();
        promise10GraftIntoRows();
        promise11Ref();
        promise12Of();
        promise13Name();
        C.end();
    }

    private static void promise1New() {
        GraphSaver x = new GraphSaver();
        for (int what = 0; what <= 8; what++) {
            C.due("count(" + what + ") of a new one", x.count(what), 0);
        }
        C.due("of(0, 0)", x.of(0, 0), BAD);
        C.due("back()", x.back(), STATE);
        C.due("cause(0, 0)", x.cause(0, 0), NOT);
        for (int i = 0; i < 8; i++) {
            C.due("held", x.held(i), NOT);
        }
        for (int i = 0; i < 4; i++) {
            C.due("sign", x.sign(i, -1), -11);
        }
        for (int kind = 1; kind <= 3; kind++) {
            C.due("version", x.version(kind, 1), 1);
        }
    }

    private static void promise2Schema() {
        GraphSaver x = new GraphSaver();
        C.due("schema", x.schema(1, 1, 'a', 99), 1);
        C.due("schema", x.schema(1, 1, 'h', -99), 2);
        C.due("schema twice", x.schema(1, 1, 'a', 5), STATE);
        C.due("schema other version", x.schema(1, 3, 'a', 5), 1);
        C.due("schema other kind", x.schema(3, 1, 'a', 6), 1);
        C.due("schema", x.schema(1, 1, 'b', 0), 3);
        C.due("schema", x.schema(1, 1, 'c', 1), 4);
        C.due("schema fifth", x.schema(1, 1, 'd', 1), FULL);
        C.due("schema twice and full", x.schema(1, 1, 'c', 1), STATE);
        C.due("schema bad and full", x.schema(1, 1, 'd', 100), BAD);
        C.due("kind 0", x.schema(0, 1, 'a', 0), BAD);
        C.due("kind 4", x.schema(4, 1, 'a', 0), BAD);
        C.due("version 0", x.schema(1, 0, 'a', 0), BAD);
        C.due("version 4", x.schema(1, 4, 'a', 0), BAD);
        C.due("name 96", x.schema(1, 2, 96, 0), BAD);
        C.due("name 105", x.schema(1, 2, 105, 0), BAD);
        C.due("v 100", x.schema(1, 2, 'a', 100), BAD);
        C.due("v -100", x.schema(1, 2, 'a', -100), BAD);
        C.due("far kind", x.schema(Integer.MIN_VALUE, Integer.MAX_VALUE, 'a', 0), BAD);
        C.due("names", x.count(6), 6);
        C.due("kept default", x.byDefault(1, 1, 'a'), 99);
    }

    private static void promise3Version() {
        GraphSaver x = new GraphSaver();
        x.schema(2, 3, 'e', 7);
        C.due("version", x.version(2, 3), 1);
        C.due("version", x.version(2, 2), 3);
        C.due("version same", x.version(2, 2), 2);
        C.due("version other kind", x.version(1, 2), 1);
        C.due("kind 0", x.version(0, 1), BAD);
        C.due("kind 4", x.version(4, 1), BAD);
        C.due("version 0", x.version(2, 0), BAD);
        C.due("version 4", x.version(2, 4), BAD);
        C.due("unchanged by BAD", x.version(2, 3), 2);
        C.due("object", x.object(2), 0);
        C.due("read by version 3", x.read(0, 'e'), 7);
    }

    private static void promise4ByDefault() {
        GraphSaver x = new GraphSaver();
        x.schema(3, 2, 'c', -1);
        C.due("byDefault -1", x.byDefault(3, 2, 'c'), -1);
        C.due("no such name", x.byDefault(3, 2, 'd'), VOID);
        C.due("no such name there", x.byDefault(3, 1, 'c'), VOID);
        C.due("kind 0", x.byDefault(0, 2, 'c'), VOID);
        C.due("kind 4", x.byDefault(4, 2, 'c'), VOID);
        C.due("version 0", x.byDefault(3, 0, 'c'), VOID);
        C.due("version 4", x.byDefault(3, 4, 'c'), VOID);
        C.due("name 96", x.byDefault(3, 2, 96), VOID);
        C.due("name 0", x.byDefault(3, 2, 0), VOID);
    }

    private static void promise5Object() {
        GraphSaver x = new GraphSaver();
        x.schema(1, 1, 'c', 3);
        x.schema(1, 1, 'a', -4);
        C.due("object 0", x.object(0), BAD);
        C.due("object 4", x.object(4), BAD);
        C.due("object", x.object(1), 0);
        C.due("its first name", x.name(0, 0), 'c');
        C.due("its second name", x.name(0, 1), 'a');
        C.due("its number", x.read(0, 'a'), -4);
        C.due("later names do not come", x.schema(1, 1, 'b', 1), 3);
        C.due("fields", x.of(0, 1), 2);
        for (int i = 1; i < 30; i++) {
            C.due("object " + i, x.object(1 + i % 3), i);
        }
        C.due("31st", x.object(2), FULL);
        C.due("31st, bad", x.object(4), BAD);
        x.hold(0, 29);
        x.hold(1, 4);
        C.due("sweep", x.sweep(), 28);
        C.due("least number", x.object(3), 0);
        for (int i : new int[] {1, 2, 3, 5}) {
            C.due("least number", x.object(3), i);
        }
    }

    private static void promise6Row() {
        GraphSaver x = new GraphSaver();
        C.due("k -1", x.row(-1, 0), BAD);
        C.due("k 4", x.row(4, 0), BAD);
        C.due("n 7", x.row(0, 7), BAD);
        C.due("n -1", x.row(0, -1), -14);
        C.due("n least", x.row(3, Integer.MIN_VALUE), -14);
        C.due("k 4, n -1", x.row(4, -1), BAD);
        C.due("row", x.row(0, 0), 0);
        C.due("row", x.row(3, 6), 1);
        C.due("kind", x.of(1, 0), 4);
        C.due("length", x.of(1, 2), 6);
        C.due("length 0", x.of(0, 2), 0);
        for (int i = 0; i < 6; i++) {
            C.due("nothing at first", x.ref(1, i), NOT);
        }
        for (int i = 2; i < 30; i++) {
            C.due("row " + i, x.row(1, 1), i);
        }
        C.due("31st", x.row(0, 0), FULL);
        C.due("31st, -14", x.row(0, -1), -14);
        C.due("31st, bad", x.row(0, 7), BAD);
    }

    private static void promise7Write() {
        GraphSaver x = new GraphSaver();
        x.object(1);
        x.row(0, 1);
        C.due("new", x.write(0, 'h', 99), 0);
        C.due("again", x.write(0, 'h', -99), 99);
        C.due("again", x.write(0, 'h', 0), -99);
        C.due("no object", x.write(2, 'a', 1), VOID);
        C.due("no object", x.write(-1, 'a', 1), VOID);
        C.due("no object", x.write(30, 'a', 1), VOID);
        C.due("a row", x.write(1, 'a', 1), VOID);
        C.due("name", x.write(0, 96, 1), VOID);
        C.due("name", x.write(0, 105, 1), VOID);
        C.due("v", x.write(0, 'a', 100), VOID);
        C.due("v", x.write(0, 'h', -100), VOID);
        for (int c = 'a'; c <= 'e'; c++) {
            C.due("new", x.write(0, c, c - 'a'), 0);
        }
        C.due("a 7th", x.write(0, 'f', 1), VOID);
        C.due("full, one that is there", x.write(0, 'c', 50), 2);
        C.streams(x, 0, "L1h0a0b1c50d3e4.");
    }

    private static void promise8Read() {
        GraphSaver x = new GraphSaver();
        x.object(2);
        x.row(0, 1);
        x.write(0, 'b', -7);
        C.due("read", x.read(0, 'b'), -7);
        C.due("no field", x.read(0, 'a'), VOID);
        C.due("name 0", x.read(0, 0), VOID);
        C.due("name 105", x.read(0, 105), VOID);
        C.due("a row", x.read(1, 'b'), VOID);
        C.due("no object", x.read(2, 'b'), VOID);
        C.due("no object", x.read(-1, 'b'), VOID);
    }

    private static void promise9Forget() {
        GraphSaver x = new GraphSaver();
        x.object(3);
        x.row(0, 1);
        x.write(0, 'a', 1);
        x.write(0, 'b', 2);
        x.write(0, 'c', 3);
        C.due("forget", x.forget(0, 'a'), 2);
        C.due("none", x.forget(0, 'a'), NOT);
        C.due("order", x.name(0, 0), 'b');
        C.due("order", x.name(0, 1), 'c');
        C.due("number stays", x.read(0, 'c'), 3);
        C.due("comes behind", x.write(0, 'a', 9), 0);
        C.due("order", x.name(0, 2), 'a');
        C.due("name 96", x.forget(0, 96), BAD);
        C.due("name 105", x.forget(0, 105), BAD);
        C.due("no object", x.forget(2, 'a'), BAD);
        C.due("a row", x.forget(1, 'a'), -12);
        C.due("a row, bad name", x.forget(1, 105), BAD);
        C.due("forget", x.forget(0, 'a'), 2);
        C.due("forget", x.forget(0, 'b'), 1);
        C.due("forget", x.forget(0, 'c'), 0);
    }

    private static void promise10Graft() {
        GraphSaver x = new GraphSaver();
        x.object(1);
        x.object(2);
        x.object(3);
        C.due("graft", x.graft(1, 0, 2), NOT);
        C.due("graft", x.graft(1, 0, 1), 2);
        C.due("graft nothing", x.graft(1, 0, -1), 1);
        C.due("graft nothing again", x.graft(1, 0, -1), NOT);
        C.due("a leaf has no place", x.graft(0, 0, 1), -13);
        C.due("a box has two", x.graft(1, 2, 1), -13);
        C.due("a crate has three", x.graft(2, 2, 0), NOT);
        C.due("a crate has three", x.graft(2, 3, 0), -13);
        C.due("i -1", x.graft(1, -1, 0), -13);
        C.due("no object", x.graft(3, 0, 1), BAD);
        C.due("object -1", x.graft(-1, 0, 1), BAD);
        C.due("to 3", x.graft(1, 0, 3), BAD);
        C.due("to -2", x.graft(1, 0, -2), BAD);
        C.due("to 30", x.graft(1, 0, 30), BAD);
        C.due("to bad, place bad", x.graft(1, 9, 30), BAD);
        C.due("number 0 was there", x.graft(2, 2, 1), 0);
    }

    private static void promise10GraftIntoRows() {
        GraphSaver x = new GraphSaver();
        x.object(1);
        x.object(2);
        x.object(3);
        int[][] holds = {{1, 1, 1, 1}, {1, 0, 0, 0}, {0, 1, 1, 0}, {0, 0, 1, 0}};
        for (int k = 0; k <= 3; k++) {
            C.due("row", x.row(k, 2), 3 + k);
            for (int to = 0; to <= 3; to++) {
                int due = holds[k][to] == 1 ? NOT : -16;
                C.due("row for " + k + " holds " + to, x.graft(3 + k, 0, to), due);
                x.graft(3 + k, 0, -1);
            }
            C.due("nothing", x.graft(3 + k, 1, -1), NOT);
        }
        C.due("place ahead of -16", x.graft(4, 2, 1), -13);
        C.due("-16 changes nothing", x.graft(4, 0, 0), NOT);
        C.due("-16 changes nothing", x.graft(4, 0, 1), -16);
        C.due("-16 changes nothing", x.ref(4, 0), 0);
        C.due("a row in itself", x.graft(3, 0, 3), NOT);
    }

    private static void promise11Ref() {
        GraphSaver x = new GraphSaver();
        x.object(2);
        x.object(1);
        x.graft(0, 1, 0);
        C.due("nothing", x.ref(0, 0), NOT);
        C.due("ref", x.ref(0, 1), 0);
        C.due("place 2", x.ref(0, 2), -13);
        C.due("place -1", x.ref(0, -1), -13);
        C.due("a leaf", x.ref(1, 0), -13);
        C.due("no object", x.ref(2, 0), BAD);
        C.due("no object, no place", x.ref(-1, -1), BAD);
    }

    private static void promise12Of() {
        GraphSaver x = new GraphSaver();
        x.schema(2, 1, 'a', 1);
        x.schema(2, 2, 'b', 1);
        x.object(2);
        x.row(3, 5);
        x.object(1);
        x.object(3);
        x.write(0, 'c', 1);
        C.due("kind", x.of(0, 0), 2);
        C.due("fields", x.of(0, 1), 2);
        C.due("refs", x.of(0, 2), 2);
        C.due("kept", x.of(0, 3), 1);
        C.due("no row", x.of(0, 4), NOT);
        C.due("what 5", x.of(0, 5), BAD);
        C.due("what -1", x.of(0, -1), BAD);
        C.due("no object", x.of(4, 0), BAD);
        x.version(2, 2);
        C.due("kept by version 2", x.of(0, 3), 2);
        C.due("row kind", x.of(1, 0), 4);
        C.due("row fields", x.of(1, 1), 0);
        C.due("row refs", x.of(1, 2), 5);
        C.due("row kept", x.of(1, 3), 0);
        C.due("row k", x.of(1, 4), 3);
        C.due("leaf refs", x.of(2, 2), 0);
        C.due("crate refs", x.of(3, 2), 3);
    }

    private static void promise13Name() {
        GraphSaver x = new GraphSaver();
        x.object(1);
        x.row(0, 2);
        x.write(0, 'd', 1);
        x.write(0, 'a', 1);
        C.due("name 0", x.name(0, 0), 'd');
        C.due("name 1", x.name(0, 1), 'a');
        C.due("name 2", x.name(0, 2), NOT);
        C.due("name 99", x.name(0, 99), NOT);
        C.due("name -1", x.name(0, -1), BAD);
        C.due("a row", x.name(1, 0), -12);
        C.due("a row, -1", x.name(1, -1), BAD);
        C.due("no object", x.name(2, 0), BAD);
    }
}
