/**
 * The boundary cases that the document names in 'Terms' 1 for objects, fields, rows and schemas,
 * and in promises 1 to 13: a method a sentence, which stands ahead of it.
 */
public final class EdgeObjectsTest {
    private static final int BAD = GraphSaver.BAD, NOT = GraphSaver.NOT, FULL = GraphSaver.FULL;
    private static final int STATE = GraphSaver.STATE, VOID = GraphSaver.VOID;
    private static final int LEAST = Integer.MIN_VALUE, MOST = Integer.MAX_VALUE;
    private static final Check C = new Check();

    public static void main(String[] args) {
        usedFor512Calls();
        objects0To29();
        leastNumberThatNoneHas();
        kinds();
        fieldNames();
        fieldNumbers();
        fieldsInTheirOrder();
        sixFieldsAtMost();
        refsAtFirst();
        refPlaces();
        rowLengths();
        rowsHoldOneKind();
        schemasOfNine();
        schemaDefaults();
        fourNamesAtMost();
        schemaHasItAlready();
        currentVersions();
        fieldsOfTheCurrentVersion();
        writtenNewWasZero();
        forgotten();
        graftedItselfToo();
        ofRows();
        namesByPlace();
        C.end();
    }

    private static GraphSaver boxes(int n) {
        GraphSaver x = new GraphSaver();
        for (int i = 0; i < n; i++) {
            x.object(2);
        }
        return x;
    }

    /** "An object is used for at most 512 calls": the 512th is answered as the first. */
    private static void usedFor512Calls() {
        GraphSaver x = boxes(1);
        for (int i = 2; i < 512; i++) {
            C.due("call " + i, x.write(0, 'a', i % 100), i == 2 ? 0 : (i - 1) % 100);
        }
        C.due("call 512", x.read(0, 'a'), 511 % 100);
    }

    /** "OBJECTS 0 .. 29": "FULL: 30", and no number beside them is one. */
    private static void objects0To29() {
        GraphSaver x = boxes(29);
        C.due("29 is none yet", x.of(29, 0), BAD);
        C.due("the 30th", x.object(1), 29);
        C.due("29 is one", x.of(29, 0), 1);
        C.due("0 is one", x.of(0, 0), 2);
        for (int none : new int[] {-1, 30, 31, LEAST, MOST}) {
            C.due("of " + none, x.of(none, 0), BAD);
            C.due("write " + none, x.write(none, 'a', 1), VOID);
            C.due("read " + none, x.read(none, 'a'), VOID);
            C.due("forget " + none, x.forget(none, 'a'), BAD);
            C.due("ref " + none, x.ref(none, 0), BAD);
            C.due("name " + none, x.name(none, 0), BAD);
            C.due("graft " + none, x.graft(none, 0, 1), BAD);
            C.due("graft to " + none, x.graft(0, 0, none), none == -1 ? NOT : BAD);
        }
        C.due("a 31st", x.object(1), FULL);
        C.due("a 31st, a row", x.row(0, 0), FULL);
        C.due("thirty", x.count(0), 30);
    }

    /** "a new one gets the least number that none has", whichever call makes it. */
    private static void leastNumberThatNoneHas() {
        GraphSaver x = boxes(9);
        for (int handle = 0; handle < 3; handle++) {
            x.hold(handle, 2 + 3 * handle);
        }
        C.due("2, 5, 8 stay", x.sweep(), 6);
        C.due("object", x.object(1), 0);
        C.due("row", x.row(0, 1), 1);
        C.due("copy", x.copy(1), 3);
        C.due("graph", x.graph(0), 4);
        C.due("load", C.load(x, "R02L1.L1."), 6);
        C.due("its parts", x.ref(6, 0), 7);
        C.due("its parts", x.ref(6, 1), 9);
        C.due("object", x.object(1), 10);
    }

    /** "kind 1 .. 3": a ROW (4) is made by row() alone. */
    private static void kinds() {
        GraphSaver x = new GraphSaver();
        for (int kind : new int[] {LEAST, -1, 0, 4, 5, MOST}) {
            C.due("object " + kind, x.object(kind), BAD);
            C.due("version of " + kind, x.version(kind, 1), BAD);
            C.due("schema of " + kind, x.schema(kind, 1, 'a', 1), BAD);
            C.due("byDefault of " + kind, x.byDefault(kind, 1, 'a'), VOID);
        }
        C.due("none was made", x.count(0), 0);
        for (int kind = 1; kind <= 3; kind++) {
            C.due("object " + kind, x.object(kind), kind - 1);
            C.due("its kind", x.of(kind - 1, 0), kind);
        }
    }

    /** "a name (a .. h)": 97 .. 104. */
    private static void fieldNames() {
        for (int name : new int[] {LEAST, -1, 0, 'A', 96, 105, 97 + 256, MOST}) {
            GraphSaver x = boxes(1);
            C.due("schema " + name, x.schema(2, 1, name, 1), BAD);
            C.due("byDefault " + name, x.byDefault(2, 1, name), VOID);
            C.due("write " + name, x.write(0, name, 1), VOID);
            C.due("read " + name, x.read(0, name), VOID);
            C.due("forget " + name, x.forget(0, name), BAD);
            C.due("nothing came of it", x.count(4) + x.count(6), 0);
        }
        for (int name = 97; name <= 104; name++) {
            GraphSaver x = boxes(1);
            C.due("schema " + name, x.schema(2, 1, name, 7), 1);
            C.due("byDefault " + name, x.byDefault(2, 1, name), 7);
            C.due("write " + name, x.write(0, name, 8), 0);
            C.due("read " + name, x.read(0, name), 8);
            C.due("forget " + name, x.forget(0, name), 0);
        }
    }

    /** "a number (-99 .. 99)". */
    private static void fieldNumbers() {
        GraphSaver x = boxes(1);
        x.write(0, 'a', 5);
        for (int v : new int[] {LEAST, VOID, -101, -100, 100, 101, MOST}) {
            C.due("write " + v, x.write(0, 'a', v), VOID);
            C.due("write a new one " + v, x.write(0, 'b', v), VOID);
            C.due("it stays", x.read(0, 'a'), 5);
            C.due("none came", x.of(0, 1), 1);
        }
        C.due("99", x.write(0, 'a', 99), 5);
        C.due("-99", x.write(0, 'a', -99), 99);
        C.due("-1 is no refusal", x.write(0, 'a', -1), -99);
        C.due("-1 is read", x.read(0, 'a'), -1);
        C.due("-1 was there", x.write(0, 'a', 0), -1);
    }

    /** "in the order in which they came": a number that is changed leaves its place. */
    private static void fieldsInTheirOrder() {
        GraphSaver x = boxes(1);
        x.write(0, 'h', 1);
        x.write(0, 'a', 2);
        x.write(0, 'd', 3);
        x.write(0, 'h', 4);
        C.streams(x, 0, "B1h4a2d3.--");
        x.forget(0, 'a');
        C.streams(x, 0, "B1h4d3.--");
        x.write(0, 'a', 5);
        C.streams(x, 0, "B1h4d3a5.--");
        x.forget(0, 'a');
        x.forget(0, 'h');
        C.streams(x, 0, "B1d3.--");
    }

    /** "6 at most", "a 7th": one that is there still changes, and one that goes makes room. */
    private static void sixFieldsAtMost() {
        for (int gone = 'a'; gone <= 'f'; gone++) {
            GraphSaver x = boxes(1);
            for (int name = 'a'; name <= 'f'; name++) {
                C.due("one of six", x.write(0, name, name - 'a'), 0);
            }
            C.due("a 7th", x.write(0, 'g', 1), VOID);
            C.due("a 7th", x.read(0, 'g'), VOID);
            C.due("six", x.of(0, 1), 6);
            C.due("one that is there", x.write(0, gone, 9), gone - 'a');
            C.due("one of six goes", x.forget(0, gone), 5);
            C.due("it is gone", x.read(0, gone), VOID);
            C.due("room for one", x.write(0, 'g', 7), 0);
            C.due("it comes behind", x.name(0, 5), 'g');
            C.due("a 7th", x.write(0, gone, 1), VOID);
        }
    }

    /** "REFS, each an OBJECT or nothing (at first): LEAF none, BOX 2, CRATE 3, a ROW its length". */
    private static void refsAtFirst() {
        GraphSaver x = new GraphSaver();
        int[] due = {0, 2, 3, 5};
        x.object(1);
        x.object(2);
        x.object(3);
        x.row(0, 5);
        for (int object = 0; object < 4; object++) {
            C.due("refs", x.of(object, 2), due[object]);
            for (int i = 0; i < due[object]; i++) {
                C.due("nothing at first", x.ref(object, i), NOT);
            }
        }
        C.due("none that isn't nothing", x.count(5), 0);
    }

    /** "-13 a place that is not there": below the first and behind the last, for each kind. */
    private static void refPlaces() {
        GraphSaver x = new GraphSaver();
        x.object(1);
        x.object(2);
        x.object(3);
        for (int n = 0; n <= 6; n++) {
            x.row(0, n);
        }
        for (int object = 0; object < 10; object++) {
            int refs = x.of(object, 2);
            for (int i : new int[] {LEAST, -1, refs, refs + 1, MOST}) {
                C.due("ref " + i + " of " + object, x.ref(object, i), -13);
                C.due("graft " + i + " of " + object, x.graft(object, i, 0), -13);
                C.due("graft nothing " + i + " of " + object, x.graft(object, i, -1), -13);
            }
            if (refs > 0) {
                C.due("the last place", x.graft(object, refs - 1, object), NOT);
                C.due("the last place", x.ref(object, refs - 1), object);
            }
        }
    }

    /** "a ROW its length (0 .. 6)", "BAD (k, n above 6); -14", "-14 a size below 0". */
    private static void rowLengths() {
        GraphSaver x = new GraphSaver();
        for (int n = 0; n <= 6; n++) {
            C.due("row of " + n, x.row(n % 4, n), n);
            C.due("its length", x.of(n, 2), n);
            C.due("its k", x.of(n, 4), n % 4);
        }
        C.due("7", x.row(0, 7), BAD);
        C.due("the most", x.row(0, MOST), BAD);
        C.due("-1", x.row(0, -1), -14);
        C.due("the least", x.row(0, LEAST), -14);
        for (int k : new int[] {LEAST, -1, 4, MOST}) {
            C.due("for " + k, x.row(k, 2), BAD);
            C.due("for " + k + ", of -1", x.row(k, -1), BAD);
        }
        C.due("seven rows", x.count(3), 7);
    }

    /** "it holds OBJECTS of KIND k or under it alone (ROWS by 0 alone)", and nothing in each. */
    private static void rowsHoldOneKind() {
        String[] held = {"1234", "1", "23", "3"};
        for (int k = 0; k <= 3; k++) {
            GraphSaver x = new GraphSaver();
            x.row(k, 6);
            x.object(1);
            x.object(2);
            x.object(3);
            x.row(0, 0);
            for (int kind = 1; kind <= 4; kind++) {
                boolean fits = held[k].indexOf('0' + kind) >= 0;
                C.due("a row for " + k + " and kind " + kind, x.graft(0, 5, kind), fits ? NOT : -16);
                C.due("it holds", x.ref(0, 5), fits ? kind : NOT);
                C.due("and nothing again", x.graft(0, 5, -1), fits ? kind : NOT);
            }
            C.due("itself", x.graft(0, 0, 0), k == 0 ? NOT : -16);
        }
        GraphSaver y = new GraphSaver();
        y.object(2);
        y.row(1, 1);
        C.due("a box holds any row", y.graft(0, 1, 1), NOT);
        C.due("a box holds itself", y.graft(0, 0, 0), NOT);
    }

    /** "for KINDS 1 .. 3, VERSIONS 1 .. 3": each of the nine has names of its own. */
    private static void schemasOfNine() {
        GraphSaver x = new GraphSaver();
        for (int kind = 1; kind <= 3; kind++) {
            for (int version = 1; version <= 3; version++) {
                C.due("the first of it", x.schema(kind, version, 'a', 10 * kind + version), 1);
            }
            for (int version : new int[] {LEAST, -1, 0, 4, MOST}) {
                C.due("schema of version " + version, x.schema(kind, version, 'b', 1), BAD);
                C.due("byDefault of version " + version, x.byDefault(kind, version, 'a'), VOID);
                C.due("version " + version, x.version(kind, version), BAD);
            }
        }
        C.due("nine names", x.count(6), 9);
        for (int kind = 1; kind <= 3; kind++) {
            for (int version = 1; version <= 3; version++) {
                C.due("its own default", x.byDefault(kind, version, 'a'), 10 * kind + version);
                C.due("version", x.version(kind, version), Math.max(1, version - 1));
                int made = x.object(kind);
                C.due("of the current version", x.read(made, 'a'), 10 * kind + version);
            }
        }
    }

    /** "names with DEFAULTS (-99 .. 99)"; "VOID: BAD, there is none". */
    private static void schemaDefaults() {
        GraphSaver x = new GraphSaver();
        for (int v : new int[] {LEAST, VOID, -100, 100, MOST}) {
            C.due("default " + v, x.schema(1, 1, 'a', v), BAD);
        }
        C.due("none came", x.byDefault(1, 1, 'a'), VOID);
        C.due("99", x.schema(1, 1, 'a', 99), 1);
        C.due("-99", x.schema(1, 1, 'b', -99), 2);
        C.due("-1", x.schema(1, 1, 'c', -1), 3);
        C.due("0", x.schema(1, 1, 'd', 0), 4);
        C.due("99", x.byDefault(1, 1, 'a'), 99);
        C.due("-99", x.byDefault(1, 1, 'b'), -99);
        C.due("-1 is no refusal", x.byDefault(1, 1, 'c'), -1);
        C.due("0", x.byDefault(1, 1, 'd'), 0);
        C.due("there is none", x.byDefault(1, 1, 'e'), VOID);
        C.due("none in that version", x.byDefault(1, 2, 'a'), VOID);
        C.due("none of that kind", x.byDefault(2, 1, 'a'), VOID);
    }

    /** "in the order in which they came, 4 at most", "FULL: 4". */
    private static void fourNamesAtMost() {
        GraphSaver x = new GraphSaver();
        int[] names = {'g', 'b', 'h', 'a'};
        for (int i = 0; i < 4; i++) {
            C.due("name " + i, x.schema(3, 1, names[i], i), i + 1);
        }
        C.due("a fifth", x.schema(3, 1, 'c', 1), FULL);
        C.due("none came", x.byDefault(3, 1, 'c'), VOID);
        C.due("four", x.count(6), 4);
        C.due("another version has room", x.schema(3, 2, 'c', 1), 1);
        x.object(3);
        C.streams(x, 0, "C1g0b1h2a3.---");
    }

    /** "STATE: it has it", ahead of FULL and behind BAD; the default stays. */
    private static void schemaHasItAlready() {
        GraphSaver x = new GraphSaver();
        x.schema(1, 2, 'a', 1);
        C.due("it has it", x.schema(1, 2, 'a', 2), STATE);
        C.due("it has it, the same default", x.schema(1, 2, 'a', 1), STATE);
        C.due("it has it, a wrong default", x.schema(1, 2, 'a', 100), BAD);
        for (int name = 'b'; name <= 'd'; name++) {
            x.schema(1, 2, name, 1);
        }
        C.due("it has it, and is full", x.schema(1, 2, 'd', 2), STATE);
        C.due("full, and a wrong name", x.schema(1, 2, 'i', 2), BAD);
        C.due("the default stays", x.byDefault(1, 2, 'a'), 1);
        C.due("four", x.count(6), 4);
    }

    /** "Each of these KINDS has a CURRENT VERSION (1 at first)": "what it was". */
    private static void currentVersions() {
        GraphSaver x = new GraphSaver();
        C.due("a leaf's at first", x.version(1, 3), 1);
        C.due("a box's at first", x.version(2, 2), 1);
        C.due("a crate's at first", x.version(3, 1), 1);
        C.due("a refused one", x.version(1, 4), BAD);
        C.due("a refused one", x.version(1, 0), BAD);
        C.due("a leaf's", x.version(1, 1), 3);
        C.due("a box's", x.version(2, 2), 2);
        C.due("a crate's", x.version(3, 3), 1);
        C.due("a crate's", x.version(3, 3), 3);
    }

    /** "A new LEAF, BOX, CRATE has the FIELDS of its KIND's CURRENT VERSION, by their DEFAULTS." */
    private static void fieldsOfTheCurrentVersion() {
        GraphSaver x = new GraphSaver();
        C.due("no names, no fields", x.object(2), 0);
        x.schema(2, 1, 'c', -99);
        x.schema(2, 1, 'a', 0);
        x.schema(2, 2, 'h', 99);
        C.due("names of version 1", x.object(2), 1);
        x.version(2, 2);
        C.due("names of version 2", x.object(2), 2);
        x.version(2, 3);
        C.due("version 3 has none", x.object(2), 3);
        C.due("another kind has none", x.object(3), 4);
        C.due("a row has none", x.row(2, 1), 5);
        C.streams(x, 0, "B3.--");
        C.streams(x, 1, "B3c-99a0.--");
        C.streams(x, 2, "B3h99.--");
        C.streams(x, 3, "B3.--");
        C.due("fields of all", x.count(4), 3);
        C.due("all of them kept, by version 3", x.of(1, 3), 2);
    }

    /** "what it was. (A new one was 0.)" */
    private static void writtenNewWasZero() {
        GraphSaver x = boxes(1);
        C.due("new", x.write(0, 'a', -7), 0);
        C.due("what it was", x.write(0, 'a', 7), -7);
        C.due("it goes", x.forget(0, 'a'), 0);
        C.due("new once more", x.write(0, 'a', 1), 0);
        x.row(0, 2);
        C.due("a row", x.write(1, 'a', 1), VOID);
        C.due("a row", x.read(1, 'a'), VOID);
        C.due("no such field", x.read(0, 'b'), VOID);
    }

    /** "how many are left. BAD; -12 (a ROW); NOT: there is none." */
    private static void forgotten() {
        GraphSaver x = boxes(1);
        x.row(0, 0);
        C.due("none at all", x.forget(0, 'a'), NOT);
        x.write(0, 'a', 1);
        C.due("none of that name", x.forget(0, 'b'), NOT);
        C.due("it stays", x.of(0, 1), 1);
        C.due("the last one", x.forget(0, 'a'), 0);
        C.due("none any more", x.forget(0, 'a'), NOT);
        C.due("a row", x.forget(1, 'a'), -12);
        C.due("a row and a wrong name", x.forget(1, 'i'), BAD);
        C.due("no such object", x.forget(2, 'a'), BAD);
    }

    /** "becomes another one (to -1: nothing): what it was (NOT: nothing). BAD (OBJECTS); -13; -16." */
    private static void graftedItselfToo() {
        GraphSaver x = boxes(2);
        x.row(3, 1);
        C.due("itself", x.graft(0, 0, 0), NOT);
        C.due("0 was there", x.graft(0, 0, 1), 0);
        C.due("the same again", x.graft(0, 0, 1), 1);
        C.due("both refs one object", x.graft(0, 1, 1), NOT);
        C.due("nothing", x.graft(0, 0, -1), 1);
        C.due("nothing again", x.graft(0, 0, -1), NOT);
        C.due("-2 is no object", x.graft(0, 0, -2), BAD);
        C.due("BAD ahead of -13", x.graft(0, 2, 3), BAD);
        C.due("BAD ahead of -13", x.graft(3, 2, 0), BAD);
        C.due("-13 ahead of -16", x.graft(2, 1, 0), -13);
        C.due("-16", x.graft(2, 0, 0), -16);
        C.due("nothing was changed", x.count(5), 1);
    }

    /** "KIND (what 0), how many FIELDS (1), REFS (2), KEPT (3), k of a ROW (4; NOT). BAD." */
    private static void ofRows() {
        GraphSaver x = boxes(1);
        for (int k = 0; k <= 3; k++) {
            x.row(k, 6 - k);
            C.due("kind", x.of(1 + k, 0), 4);
            C.due("fields", x.of(1 + k, 1), 0);
            C.due("refs", x.of(1 + k, 2), 6 - k);
            C.due("kept", x.of(1 + k, 3), 0);
            C.due("k", x.of(1 + k, 4), k);
        }
        C.due("k of a box", x.of(0, 4), NOT);
        for (int what : new int[] {LEAST, -1, 5, MOST}) {
            C.due("what " + what, x.of(0, what), BAD);
            C.due("what " + what + " of a row", x.of(1, what), BAD);
        }
    }

    /** "The i-th FIELD's name. BAD (i below 0); -12 (a ROW); NOT." */
    private static void namesByPlace() {
        GraphSaver x = boxes(1);
        x.row(0, 6);
        C.due("no field", x.name(0, 0), NOT);
        for (int name = 'h'; name >= 'c'; name--) {
            x.write(0, name, 0);
        }
        for (int i = 0; i < 6; i++) {
            C.due("name " + i, x.name(0, i), 'h' - i);
        }
        C.due("behind the last", x.name(0, 6), NOT);
        C.due("far behind it", x.name(0, MOST), NOT);
        C.due("ahead of the first", x.name(0, -1), BAD);
        C.due("far ahead of it", x.name(0, LEAST), BAD);
        C.due("a row", x.name(1, 0), -12);
        C.due("a row, far behind", x.name(1, MOST), -12);
        C.due("a row, BAD ahead", x.name(1, -1), BAD);
    }
}
