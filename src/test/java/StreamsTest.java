/** Promises 17 to 23: shelves, streams saved and loaded, why a load fails. */
public final class StreamsTest {
    private static final int BAD = GraphSaver.BAD, NOT = GraphSaver.NOT, FULL = GraphSaver.FULL;
    private static final int STATE = GraphSaver.STATE, VOID = GraphSaver.VOID;
    private static final Check C = new Check();

    public static void main(String[] args) {
        promise17Shelf();
        promise18Put();
        promise19Sign();
        promise20Save();
        promise20SaveIds();
        promise20SaveFull();
        promise21Load();
        promise21LoadDefaults();
        promise21LoadWithManyIds();
        promise22Cause();
        promise22WrongSigns();
        promise22WrongNumbers();
        promise22UnknownIds();
        promise22NotForRow();
        promise22TooMany();
        promise22TooDeep();
        promise22WrongNames();
        promise22SignsBehind();
        promise23Judge();
        C.end();
    }

    private static void promise17Shelf() {
        GraphSaver x = new GraphSaver();
        C.due("shelf -1", x.shelf(-1, 3), BAD);
        C.due("shelf 4", x.shelf(4, 3), BAD);
        C.due("n 201", x.shelf(0, 201), BAD);
        C.due("n -2", x.shelf(0, -2), -14);
        C.due("n -2, shelf 4", x.shelf(4, -2), BAD);
        C.due("still nothing", x.sign(0, -1), -11);
        C.due("n 200", x.shelf(0, 200), 1);
        C.due("length", x.sign(0, -1), 200);
        C.due("put", x.put(0, 199, 9), 0);
        C.due("anew", x.shelf(0, 200), 1);
        C.due("zeros", x.sign(0, 199), 0);
        C.due("n 0", x.shelf(3, 0), 1);
        C.due("a stream without signs", x.sign(3, -1), 0);
        C.due("two hold", x.count(8), 2);
        C.due("nothing", x.shelf(0, -1), 1);
        C.due("nothing", x.sign(0, -1), -11);
        C.due("one holds", x.count(8), 1);
    }

    private static void promise18Put() {
        GraphSaver x = new GraphSaver();
        C.due("nothing there", x.put(0, 0, 1), -11);
        C.due("nothing there, no place", x.put(0, -1, 1), -11);
        x.shelf(0, 2);
        C.due("put", x.put(0, 1, 255), 0);
        C.due("again", x.put(0, 1, 0), 255);
        C.due("c -1", x.put(0, 0, -1), BAD);
        C.due("c 256", x.put(0, 0, 256), BAD);
        C.due("shelf", x.put(4, 0, 1), BAD);
        C.due("shelf", x.put(-1, 0, 1), BAD);
        C.due("i 2", x.put(0, 2, 1), -13);
        C.due("i -1", x.put(0, -1, 1), -13);
        C.due("i 2, c 256", x.put(0, 2, 256), BAD);
        C.due("nothing there, c 256", x.put(1, 0, 256), BAD);
    }

    private static void promise19Sign() {
        GraphSaver x = new GraphSaver();
        C.lay(x, 2, "ab");
        C.due("sign", x.sign(2, 1), 'b');
        C.due("length", x.sign(2, -1), 2);
        C.due("i -2", x.sign(2, -2), -13);
        C.due("i 2", x.sign(2, 2), -13);
        C.due("nothing there", x.sign(1, 5), -11);
        C.due("shelf", x.sign(4, 0), BAD);
        C.due("shelf", x.sign(-1, -1), BAD);
        x.shelf(1, 0);
        C.due("no sign", x.sign(1, 0), -13);
    }

    private static void promise20Save() {
        GraphSaver x = new GraphSaver();
        C.due("nothing", x.save(0, -1), 1);
        C.holds(x, 0, "-");
        x.object(3);
        x.object(1);
        x.row(0, 3);
        x.version(1, 3);
        x.write(1, 'g', -10);
        x.write(1, 'a', 9);
        x.write(1, 'c', 0);
        x.write(1, 'b', 99);
        x.write(1, 'h', -1);
        x.write(1, 'd', 10);
        x.graft(0, 1, 2);
        x.graft(2, 0, 0);
        x.graft(2, 2, 1);
        x.graft(0, 2, 1);
        String signs = "C1.-R03#A-L3g-10a9c0b99h-1d10.#C";
        C.due("save", x.save(0, 0), signs.length());
        C.holds(x, 0, signs);
        C.due("an empty row", x.row(2, 0), 3);
        C.due("an empty row", x.save(1, 3), 3);
        C.holds(x, 1, "R20");
        C.due("shelf", x.save(4, 0), BAD);
        C.due("shelf", x.save(-1, 0), BAD);
        C.due("object", x.save(0, 4), BAD);
        C.due("object", x.save(0, -2), BAD);
        C.holds(x, 0, signs);
    }

    /** Five rows that hold rows, one after the other: the last ids are [ \ ] ^. */
    private static void promise20SaveIds() {
        GraphSaver x = new GraphSaver();
        x.row(0, 6);
        for (int i = 0; i < 5; i++) {
            x.row(0, 6);
            x.graft(0, i, 1 + 6 * i);
            for (int j = 0; j < (i == 4 ? 4 : 5); j++) {
                int leaf = x.object(1);
                x.graft(1 + 6 * i, j, leaf);
            }
        }
        C.due("thirty", x.count(0), 30);
        x.graft(0, 5, 29);
        C.due("save", x.save(0, 0), 3 + 5 * 3 + 24 * 3 + 6 + 2);
        C.due("#", x.sign(0, 96), '#');
        C.due("^", x.sign(0, 97), '^');
        x.graft(0, 5, 26);
        C.due("[", x.stream(0, 97), '[');
        x.graft(0, 5, 28);
        C.due("]", x.stream(0, 97), ']');
    }

    private static void promise20SaveFull() {
        GraphSaver x = new GraphSaver();
        x.row(0, 6);
        x.row(0, 3);
        x.graft(0, 5, 1);
        for (int i = 0; i < 7; i++) {
            int leaf = x.object(1);
            for (int c = 'a'; c <= 'f'; c++) {
                x.write(leaf, c, -10);
            }
            x.graft(i < 5 ? 0 : 1, i % 5, leaf);
        }
        C.due("two rows, 7 leaves of 27, nothing", x.save(0, 0), 3 + 3 + 7 * 27 + 1);
        x.graft(1, 2, x.object(1));
        x.write(9, 'a', 1);
        C.due("200", x.save(1, 0), 200);
        C.due("200", x.told(0, 4), 200);
        C.due("200", x.sign(1, 199), '.');
        C.due("200", x.stream(0, 199), '.');
        C.due("200", x.stream(0, 200), NOT);
        C.due("200", x.judge(1, 0), NOT);
        C.due("200 are loaded, too", x.load(1), 10);
        x.write(9, 'a', 10);
        C.due("201", x.save(1, 0), FULL);
        C.due("201 changes nothing", x.sign(1, -1), 200);
        C.due("201 changes nothing", x.sign(1, 198), '1');
        C.due("201, shelf 4", x.save(4, 0), BAD);
        C.due("201", x.told(0, 4), FULL);
        C.due("201", x.judge(1, 0), FULL);
        C.due("201, nothing there", x.judge(2, 0), -11);
        C.due("201", x.stream(0, 0), FULL);
        C.due("201, k 500", x.stream(0, 500), FULL);
        C.due("201, k -1", x.stream(0, -1), BAD);
        C.due("201, reach", x.told(0, 0), 10);
        C.due("201, graph", x.graph(0), 20);
        C.due("201, alike", x.alike(0, 20), 1);
    }

    private static void promise21Load() {
        GraphSaver x = new GraphSaver();
        C.due("nothing there", x.load(0), -11);
        C.due("shelf", x.load(4), BAD);
        C.due("shelf", x.load(-1), BAD);
        C.lay(x, 0, "-");
        C.due("nothing", x.load(0), NOT);
        C.lay(x, 1, "C2a-99h0.#AR02L1b10.B3.#C--");
        C.due("load", x.load(1), 0);
        C.due("crate", x.of(0, 0), 3);
        C.due("row", x.of(1, 0), 4);
        C.due("leaf", x.of(2, 0), 1);
        C.due("box", x.of(3, 0), 2);
        C.due("itself", x.ref(0, 0), 0);
        C.due("row in it", x.ref(0, 1), 1);
        C.due("nothing in it", x.ref(0, 2), NOT);
        C.due("box to leaf", x.ref(3, 0), 2);
        C.due("field", x.read(0, 'a'), -99);
        C.due("field", x.read(0, 'h'), 0);
        C.due("field", x.read(2, 'b'), 10);
        C.due("once more", x.load(1), 4);
        C.due("alike", x.alike(0, 4), 1);
        C.due("the stream stays", x.sign(1, -1), 27);
        C.due("a good load leaves the fail", x.cause(0, 0), NOT);
        for (int kind = 1; kind <= 3; kind++) {
            int made = x.object(kind);
            x.save(2, made);
            C.due("made and loaded are alike", x.alike(made, x.load(2)), 1);
        }
        x.row(2, 3);
        x.save(2, 14);
        C.due("a row, too", x.alike(14, x.load(2)), 1);
    }

    private static void promise21LoadDefaults() {
        GraphSaver x = new GraphSaver();
        x.schema(1, 1, 'h', 1);
        x.schema(1, 2, 'b', 2);
        x.schema(1, 2, 'c', 3);
        x.schema(1, 2, 'd', 4);
        x.version(1, 2);
        C.lay(x, 0, "L1c7.");
        C.due("load", x.load(0), 0);
        C.streams(x, 0, "L2c7b2d4.");
        C.due("none of the version told", x.read(0, 'h'), VOID);
        C.lay(x, 0, "L3e1f1g1h1a1.");
        C.due("load", x.load(0), 1);
        C.streams(x, 1, "L2e1f1g1h1a1b2.");
        C.lay(x, 0, "L3e1f1g1h1a1c1.");
        C.due("load", x.load(0), 2);
        C.streams(x, 2, "L2e1f1g1h1a1c1.");
        C.due("kept", x.of(2, 3), 5);
    }

    private static void promise21LoadWithManyIds() {
        GraphSaver x = new GraphSaver();
        StringBuilder signs = new StringBuilder("R06");
        for (int i = 0; i < 4; i++) {
            signs.append("R06L1.L1.L1.L1.L1.L1.");
        }
        C.fails(x, signs + "-#^", 8, 0, 2, signs.length() + 2);
        signs.append("L1.#^");
        C.lay(x, 0, signs.toString());
        C.due("thirty", x.load(0), 0);
        C.due("the last of them", x.ref(0, 5), 29);
        C.due("the last of them", x.ref(0, 4), 29);
        C.streams(x, 0, signs.toString());
    }

    private static void promise22Cause() {
        GraphSaver x = new GraphSaver();
        C.due("no fail yet", x.cause(0, 0), NOT);
        C.due("what 2", x.cause(0, 2), BAD);
        C.due("what -1", x.cause(0, -1), BAD);
        C.due("i -1", x.cause(-1, 0), BAD);
        C.fails(x, "B1.B2.-X", 8, 0, 8, 3, 1, 7);
        C.due("what 2", x.cause(0, 2), BAD);
        C.due("i -1", x.cause(-1, 1), BAD);
        C.lay(x, 0, "-");
        C.due("a good load", x.load(0), NOT);
        C.causesAre(x, "the fail stays", 8, 0, 8, 3, 1, 7);
        C.due("a bad load", x.load(4), BAD);
        C.due("a load of nothing", x.load(1), -11);
        x.image();
        x.back();
        C.causesAre(x, "the fail stays", 8, 0, 8, 3, 1, 7);
        C.fails(x, "x", 1, 0);
    }

    private static void promise22WrongSigns() {
        GraphSaver x = new GraphSaver();
        C.fails(x, "", 1, 0);
        C.fails(x, "l1.", 1, 0);
        C.fails(x, "L", 8, 0, 1, 1);
        C.fails(x, "L0.", 8, 0, 1, 1);
        C.fails(x, "L4.", 8, 0, 1, 1);
        C.fails(x, "L1", 8, 0, 1, 2);
        C.fails(x, "L1i1.", 8, 0, 1, 2);
        C.fails(x, "L1`1.", 8, 0, 1, 2);
        C.fails(x, "B1.", 8, 0, 1, 3);
        C.fails(x, "B1.-", 8, 0, 1, 4);
        C.fails(x, "C1.--", 8, 0, 1, 5);
        C.fails(x, "R", 8, 0, 1, 1);
        C.fails(x, "R4", 8, 0, 1, 1);
        C.fails(x, "R/1-", 8, 0, 1, 1);
        C.fails(x, "R0", 8, 0, 1, 2);
        C.fails(x, "R07", 8, 0, 1, 2);
        C.fails(x, "R01", 8, 0, 1, 3);
        C.fails(x, "R01R1", 8, 0, 8, 3, 1, 5);
        C.fails(x, "R01.", 8, 0, 1, 3);
        C.fails(x, "#", 1, 1);
        C.fails(x, "#@", 1, 1);
        C.fails(x, "#_", 1, 1);
        C.fails(x, "R01#a", 8, 0, 1, 4);
        C.fails(x, "" + (char) 255, 1, 0);
        C.fails(x, "" + (char) 0, 1, 0);
    }

    private static void promise22WrongNumbers() {
        GraphSaver x = new GraphSaver();
        C.fails(x, "L1a.", 8, 0, 1, 3);
        C.fails(x, "L1a", 8, 0, 1, 3);
        C.fails(x, "L1a-", 8, 0, 1, 4);
        C.fails(x, "L1a-.", 8, 0, 1, 4);
        C.fails(x, "L1a--1.", 8, 0, 1, 4);
        C.fails(x, "L1a-0.", 8, 0, 1, 4);
        C.fails(x, "L1a-01.", 8, 0, 1, 4);
        C.fails(x, "L1a00.", 8, 0, 1, 4);
        C.fails(x, "L1a01.", 8, 0, 1, 4);
        C.fails(x, "L1a100.", 8, 0, 1, 5);
        C.fails(x, "L1a-100.", 8, 0, 1, 6);
        C.fails(x, "L1a1-.", 8, 0, 1, 4);
        C.fails(x, "L1ab.", 8, 0, 1, 3);
        C.fails(x, "L1a5", 8, 0, 1, 4);
    }

    private static void promise22UnknownIds() {
        GraphSaver x = new GraphSaver();
        x.object(1);
        C.fails(x, "#A", 2, 1);
        C.fails(x, "R01#B", 8, 0, 2, 4);
        C.fails(x, "R01#^", 8, 0, 2, 4);
        C.fails(x, "R02#CL1.", 8, 0, 2, 4);
        C.fails(x, "B1.C1.#C--#A", 8, 0, 8, 3, 2, 7);
    }

    private static void promise22NotForRow() {
        GraphSaver x = new GraphSaver();
        C.fails(x, "R11B1.--", 8, 0, 3, 3);
        C.fails(x, "R11R00", 8, 0, 3, 3);
        C.fails(x, "R12-C1.---", 8, 0, 3, 4);
        C.fails(x, "R21L1a5.", 8, 0, 3, 3);
        C.fails(x, "R31B1.--", 8, 0, 3, 3);
        C.fails(x, "R31#A", 8, 0, 3, 3);
        C.fails(x, "B1.-R11#A", 8, 0, 8, 4, 3, 7);
        C.fails(x, "R11B1.-X", 8, 0, 8, 3, 1, 7);
        C.fails(x, "R11B1.--X", 8, 0, 3, 3);
        C.lay(x, 0, "R24-C1.---B1.--#B");
        C.due("crates are under box", x.load(0), 0);
        C.lay(x, 0, "R32-C1.---");
        C.due("a row for crates", x.load(0), 3);
        C.lay(x, 0, "R02R00#A");
        C.due("rows in a row for any", x.load(0), 5);
    }

    private static void promise22TooMany() {
        GraphSaver x = new GraphSaver();
        for (int i = 0; i < 28; i++) {
            x.object(1);
        }
        C.lay(x, 0, "B1.L1.-");
        x.image();
        C.due("two fit", x.load(0), 28);
        C.fails(x, "L1.", 4, 0);
        C.fails(x, "Lx", 4, 0);
        C.lay(x, 0, "-");
        C.due("nothing fits", x.load(0), NOT);
        x.back();
        C.fails(x, "B1.L1.L1.", 8, 0, 4, 6);
        C.fails(x, "B1.L1.Lx", 8, 0, 4, 6);
        C.fails(x, "B1.B1.C1.---", 8, 0, 8, 3, 4, 6);
        C.fails(x, "B1.L1.X", 8, 0, 1, 6);
        C.lay(x, 0, "B1.L1.#B");
        C.due("# is no other one", x.load(0), 28);
    }

    private static void promise22TooDeep() {
        GraphSaver x = new GraphSaver();
        StringBuilder signs = new StringBuilder();
        for (int i = 0; i < 12; i++) {
            signs.append("R01");
        }
        C.lay(x, 0, signs + "#L");
        C.due("12 fit", x.load(0), 0);
        C.due("deep", x.told(0, 0), 12);
        int[] causes = new int[26];
        for (int i = 0; i < 12; i++) {
            causes[2 * i] = 8;
            causes[2 * i + 1] = 3 * i;
        }
        causes[24] = 5;
        causes[25] = 36;
        C.fails(x, signs + "L1.", causes);
        C.fails(x, signs + "Bx", causes);
        for (int i = 12; i < 18; i++) {
            x.object(1);
        }
        C.fails(x, signs + "L1.", causes);
        C.due("30 with the 12", x.count(0), 18);
        causes[24] = 1;
        C.fails(x, signs + "x", causes);
        C.fails(x, signs.toString(), causes);
        x.object(1);
        int[] fewer = java.util.Arrays.copyOf(causes, 24);
        fewer[22] = 4;
        C.fails(x, signs + "L1.", fewer);
    }

    private static void promise22WrongNames() {
        GraphSaver x = new GraphSaver();
        C.fails(x, "L1a5a6.", 8, 0, 6, 4);
        C.fails(x, "L1a5a", 8, 0, 6, 4);
        C.fails(x, "L1a5b-6a", 8, 0, 6, 7);
        C.fails(x, "L1a1b1c1d1e1f1g1.", 8, 0, 6, 14);
        C.fails(x, "L1a1b1c1d1e1f1a1.", 8, 0, 6, 14);
        C.fails(x, "L1a1b1c1d1e1f1x", 8, 0, 1, 14);
        C.fails(x, "B1.-B1a5a", 8, 0, 8, 4, 6, 8);
        C.lay(x, 0, "L1a1b1c1d1e1f1.");
        C.due("six", x.load(0), 0);
    }

    private static void promise22SignsBehind() {
        GraphSaver x = new GraphSaver();
        C.fails(x, "--", 7, 1);
        C.fails(x, "L1.L1.", 7, 3);
        C.fails(x, "R00" + (char) 0, 7, 3);
        C.fails(x, "B1.-#A.", 7, 6);
    }

    private static void promise23Judge() {
        GraphSaver x = new GraphSaver();
        x.object(2);
        x.write(0, 'a', 12);
        C.due("nothing there", x.judge(0, 0), -11);
        C.due("shelf", x.judge(4, 0), BAD);
        C.due("shelf", x.judge(-1, 0), BAD);
        C.due("object", x.judge(0, 1), BAD);
        C.due("object", x.judge(0, -2), BAD);
        C.lay(x, 0, "B1a12.--");
        C.due("as it would be", x.judge(0, 0), NOT);
        C.lay(x, 0, "B1a12.-");
        C.due("there are more", x.judge(0, 0), 7);
        C.lay(x, 0, "B1a12.---");
        C.due("beyond", x.judge(0, 0), 8);
        C.lay(x, 0, "B1a13.--");
        C.due("otherwise", x.judge(0, 0), 4);
        C.lay(x, 0, "");
        C.due("none told", x.judge(0, 0), 0);
        C.due("none told, nothing", x.judge(0, -1), 0);
        C.lay(x, 0, "-");
        C.due("nothing", x.judge(0, -1), NOT);
        C.due("otherwise at once", x.judge(0, 0), 0);
        C.lay(x, 0, "-x");
        C.due("beyond nothing", x.judge(0, -1), 1);
    }
}
