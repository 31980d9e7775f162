/**
 * The boundary cases that the document names for SHELVES, SAVED, a STREAM judged, and in promises
 * 17 to 20 and 23: a method a sentence, which stands ahead of it.
 */
public final class EdgeShelvesTest {
    private static final int BAD = GraphSaver.BAD, NOT = GraphSaver.NOT, FULL = GraphSaver.FULL;
    private static final int LEAST = Integer.MIN_VALUE, MOST = Integer.MAX_VALUE;
    private static final int[] NO_SHELVES = {LEAST, -2, -1, 4, 5, MOST};
    private static final Check C = new Check();

    public static void main(String[] args) {
        nothingAtFirst();
        shelves0To3();
        zeroTo200Signs();
        zeroAtFirst();
        nothingAgain();
        sizesBelowZero();
        putSigns0To255();
        putPlaces();
        putAnswersInTheirOrder();
        signHowMany();
        signPlaces();
        savedNothing();
        savedNumbers();
        savedVersions();
        savedRows();
        savedMetAlready();
        savedInTheOrderOfRefs();
        savedOverAStream();
        saveOfNoObject();
        twoHundredSignsAtMost();
        judgedSignBySign();
        judgedBeyond();
        judgedAsItIs();
        judgedNothing();
        judgeAnswersInTheirOrder();
        judgedInThought();
        C.end();
    }

    private static GraphSaver boxes(int n) {
        GraphSaver x = new GraphSaver();
        for (int i = 0; i < n; i++) {
            x.object(2);
        }
        return x;
    }

    /** "SHELVES 0 .. 3 hold a STREAM .., or nothing (at first)". "-11 nothing is there where something is wanted". */
    private static void nothingAtFirst() {
        GraphSaver x = new GraphSaver();
        C.due("none holds something", x.count(8), 0);
        for (int shelf = 0; shelf < 4; shelf++) {
            C.due("how many", x.sign(shelf, -1), -11);
            C.due("sign", x.sign(shelf, 0), -11);
            C.due("put", x.put(shelf, 0, 1), -11);
            C.due("load", x.load(shelf), -11);
            C.due("judge", x.judge(shelf, -1), -11);
        }
        C.due("no load failed", x.cause(0, 0), NOT);
    }

    /** "SHELVES 0 .. 3": each has a stream of its own, and there is no other. */
    private static void shelves0To3() {
        GraphSaver x = boxes(1);
        for (int shelf = 0; shelf < 4; shelf++) {
            C.due("shelf", x.shelf(shelf, shelf + 1), 1);
            C.due("put", x.put(shelf, shelf, 40 + shelf), 0);
        }
        for (int none : NO_SHELVES) {
            C.due("shelf " + none, x.shelf(none, 1), BAD);
            C.due("shelf " + none, x.shelf(none, -1), BAD);
            C.due("put " + none, x.put(none, 0, 1), BAD);
            C.due("sign " + none, x.sign(none, 0), BAD);
            C.due("sign " + none, x.sign(none, -1), BAD);
            C.due("save " + none, x.save(none, 0), BAD);
            C.due("save nothing " + none, x.save(none, -1), BAD);
            C.due("load " + none, x.load(none), BAD);
            C.due("judge " + none, x.judge(none, 0), BAD);
            C.due("judge nothing " + none, x.judge(none, -1), BAD);
        }
        for (int shelf = 0; shelf < 4; shelf++) {
            C.due("how many", x.sign(shelf, -1), shelf + 1);
            C.due("its own sign", x.sign(shelf, shelf), 40 + shelf);
        }
    }

    /** "a STREAM of n signs (0 .. 200)"; "BAD (SHELF, n above 200)". */
    private static void zeroTo200Signs() {
        GraphSaver x = new GraphSaver();
        for (int n : new int[] {0, 1, 199, 200}) {
            C.due("n " + n, x.shelf(1, n), 1);
            C.due("how many", x.sign(1, -1), n);
            C.due("behind the last", x.sign(1, n), -13);
            C.due("one holds something", x.count(8), 1);
        }
        C.due("the last of 200", x.put(1, 199, 7), 0);
        for (int n : new int[] {201, 202, MOST}) {
            C.due("n " + n, x.shelf(1, n), BAD);
            C.due("it stays", x.sign(1, -1), 200);
            C.due("its last sign stays", x.sign(1, 199), 7);
            C.due("n " + n + " where nothing is", x.shelf(0, n), BAD);
            C.due("still nothing", x.sign(0, -1), -11);
        }
    }

    /** "A SHELF holds a STREAM of n signs (0)": each is 0, whatever stood there. */
    private static void zeroAtFirst() {
        GraphSaver x = new GraphSaver();
        x.shelf(2, 200);
        for (int i = 0; i < 200; i++) {
            C.due("0 at first", x.put(2, i, 255), 0);
        }
        C.due("fewer", x.shelf(2, 100), 1);
        C.due("the first", x.sign(2, 0), 0);
        C.due("the last", x.sign(2, 99), 0);
        C.due("more again", x.shelf(2, 200), 1);
        C.due("those behind are 0 too", x.sign(2, 100), 0);
        C.due("those behind are 0 too", x.sign(2, 199), 0);
        x.put(2, 5, 9);
        C.due("as many", x.shelf(2, 200), 1);
        C.due("0 once more", x.sign(2, 5), 0);
    }

    /** "or nothing (n -1): 1". */
    private static void nothingAgain() {
        GraphSaver x = new GraphSaver();
        C.due("nothing where nothing is", x.shelf(3, -1), 1);
        C.due("none holds something", x.count(8), 0);
        C.lay(x, 3, "ab");
        C.due("nothing", x.shelf(3, -1), 1);
        C.due("none holds something", x.count(8), 0);
        C.due("sign", x.sign(3, 0), -11);
        C.due("put", x.put(3, 0, 1), -11);
        C.due("a stream again", x.shelf(3, 2), 1);
        C.due("0 again", x.sign(3, 0), 0);
        C.due("0 again", x.sign(3, 1), 0);
    }

    /** "-14 (n below -1)", behind BAD; it changes nothing. */
    private static void sizesBelowZero() {
        GraphSaver x = new GraphSaver();
        C.lay(x, 0, "ab");
        for (int n : new int[] {-2, -3, LEAST}) {
            C.due("n " + n, x.shelf(0, n), -14);
            C.due("n " + n + " where nothing is", x.shelf(1, n), -14);
            C.due("n " + n + ", no shelf", x.shelf(4, n), BAD);
            C.due("n " + n + ", no shelf", x.shelf(-1, n), BAD);
        }
        C.holds(x, 0, "ab");
        C.due("still nothing", x.sign(1, -1), -11);
    }

    /** "Sign i of a STREAM becomes c (0 .. 255): what it was." */
    private static void putSigns0To255() {
        GraphSaver x = new GraphSaver();
        x.shelf(0, 1);
        for (int c = 0; c <= 255; c++) {
            C.due("put " + c, x.put(0, 0, c), Math.max(0, c - 1));
        }
        for (int c : new int[] {LEAST, -2, -1, 256, 257, 65536, MOST}) {
            C.due("put " + c, x.put(0, 0, c), BAD);
            C.due("it stays", x.sign(0, 0), 255);
        }
    }

    /** "-13 a place that is not there": ahead of the first, behind the last, in a stream of none. */
    private static void putPlaces() {
        GraphSaver x = new GraphSaver();
        for (int n : new int[] {0, 1, 5, 199, 200}) {
            x.shelf(0, n);
            for (int i : new int[] {LEAST, -2, -1, n, n + 1, 201, MOST}) {
                C.due("put at " + i + " of " + n, x.put(0, i, 1), -13);
            }
            C.due("as many as before", x.sign(0, -1), n);
            if (n > 0) {
                C.due("at the first", x.put(0, 0, 3), 0);
                C.due("at the last", x.put(0, n - 1, 4), n == 1 ? 3 : 0);
            }
        }
    }

    /** "BAD (SHELF, c); -11; -13." */
    private static void putAnswersInTheirOrder() {
        GraphSaver x = new GraphSaver();
        C.due("nothing there, no place", x.put(0, -1, 1), -11);
        C.due("nothing there, c", x.put(0, 0, 256), BAD);
        C.due("nothing there, no place, c", x.put(0, 500, -1), BAD);
        x.shelf(0, 3);
        C.due("no place, c", x.put(0, 3, 256), BAD);
        C.due("no place, no shelf", x.put(4, 3, 1), BAD);
    }

    /** "Sign i of a STREAM (i -1: how many)". */
    private static void signHowMany() {
        GraphSaver x = new GraphSaver();
        x.shelf(0, 0);
        C.due("none", x.sign(0, -1), 0);
        x.shelf(0, 200);
        C.due("200", x.sign(0, -1), 200);
        x.save(0, -1);
        C.due("one", x.sign(0, -1), 1);
        C.due("nothing there", x.sign(1, -1), -11);
        C.due("no shelf", x.sign(4, -1), BAD);
    }

    /** "BAD (SHELF); -11; -13." */
    private static void signPlaces() {
        GraphSaver x = new GraphSaver();
        C.due("nothing there, no place", x.sign(0, -2), -11);
        C.due("nothing there, no place", x.sign(0, MOST), -11);
        for (int n : new int[] {0, 1, 200}) {
            x.shelf(0, n);
            for (int i : new int[] {LEAST, -2, n, n + 1, 201, MOST}) {
                C.due("sign " + i + " of " + n, x.sign(0, i), -13);
            }
        }
        C.due("no place, no shelf", x.sign(-1, 500), BAD);
    }

    /** "nothing: -." "(-1: nothing)". */
    private static void savedNothing() {
        GraphSaver x = new GraphSaver();
        C.due("nothing", x.save(2, -1), 1);
        C.holds(x, 2, "-");
        C.due("one shelf holds something", x.count(8), 1);
        x.object(2);
        x.row(0, 6);
        C.streams(x, 0, "B1.--");
        C.streams(x, 1, "R06------");
    }

    /** "its number (- ahead, if below 0; no 0 ahead)": each number that there is. */
    private static void savedNumbers() {
        for (int v = -99; v <= 99; v++) {
            GraphSaver x = new GraphSaver();
            x.object(1);
            x.write(0, 'd', v);
            String signs = "L1d" + v + ".";
            C.due("save", x.save(0, 0), signs.length());
            C.holds(x, 0, signs);
        }
    }

    /** "L, B, C, the digit of its KIND's CURRENT VERSION": the one of now, of its own kind. */
    private static void savedVersions() {
        GraphSaver x = new GraphSaver();
        x.object(1);
        x.object(2);
        x.object(3);
        String[] behind = {".", ".--", ".---"};
        for (int version = 1; version <= 3; version++) {
            for (int kind = 1; kind <= 3; kind++) {
                x.version(kind, 1 + (version + kind) % 3);
            }
            for (int kind = 1; kind <= 3; kind++) {
                C.streams(x, kind - 1, "" + "LBC".charAt(kind - 1) + (1 + (version + kind) % 3) + behind[kind - 1]);
            }
        }
    }

    /** "ROW: R, the digits of k and of its length; then its REFS." */
    private static void savedRows() {
        for (int k = 0; k <= 3; k++) {
            GraphSaver x = new GraphSaver();
            for (int n = 0; n <= 6; n++) {
                x.row(k, n);
                C.due("save", x.save(0, n), 3 + n);
                C.holds(x, 0, "R" + k + n + "-".repeat(n));
            }
        }
    }

    /** "# and its ID as a sign (A for 0, B for 1, ..; [ \ ] ^ for 26 .. 29)": each of the thirty. */
    private static void savedMetAlready() {
        String ids = "ABCDEFGHIJKLMNOPQRSTUVWXYZ[\\]^";
        GraphSaver x = new GraphSaver();
        for (int i = 0; i < 30; i++) {
            x.row(0, 2);
        }
        StringBuilder signs = new StringBuilder();
        for (int i = 0; i < 30; i++) {
            x.graft(29 - i, 0, 29 - i);
            x.graft(29 - i, 1, 28 - i);
            signs.append("R02#").append(ids.charAt(i));
        }
        C.due("thirty in a chain, each in itself", x.save(0, 29), 151);
        C.holds(x, 0, signs + "-");
        for (int i = 0; i < 30; i++) {
            x.graft(0, 1, 29 - i);
            C.due("#", x.stream(29, 150), '#');
            C.due("the sign of " + i, x.stream(29, 151), ids.charAt(i));
        }
    }

    /** "Else it is met: its ID is how many were met ahead": REFS inside ahead of those behind. */
    private static void savedInTheOrderOfRefs() {
        GraphSaver x = boxes(4);
        x.object(3);
        x.graft(4, 0, 2);
        x.graft(4, 1, 0);
        x.graft(4, 2, 3);
        x.graft(2, 1, 3);
        x.graft(3, 0, 4);
        x.graft(0, 0, 0);
        x.graft(0, 1, 2);
        C.streams(x, 4, "C1.B1.-B1.#A-B1.#D#B#C");
        C.streams(x, 3, "B1.C1.B1.-#AB1.#D#C#A-");
        x.write(3, 'h', 0);
        x.write(3, 'a', -5);
        C.streams(x, 4, "C1.B1.-B1h0a-5.#A-B1.#D#B#C");
    }

    /** "An OBJECT is SAVED to a SHELF": what stood there is no more. */
    private static void savedOverAStream() {
        GraphSaver x = boxes(1);
        C.lay(x, 1, "abcdefgh");
        C.due("save", x.save(1, 0), 5);
        C.holds(x, 1, "B1.--");
        C.due("no place any more", x.sign(1, 5), -13);
        C.due("a longer one", x.shelf(1, 8), 1);
        C.due("0", x.sign(1, 0), 0);
        C.due("0", x.sign(1, 5), 0);
        for (int shelf = 0; shelf < 4; shelf++) {
            C.due("save", x.save(shelf, 0), 5);
        }
        x.put(2, 0, 'C');
        x.write(0, 'a', 1);
        C.holds(x, 0, "B1.--");
        C.holds(x, 2, "C1.--");
        C.holds(x, 3, "B1.--");
    }

    /** "BAD": an object that isn't there; -1 alone is nothing. It changes nothing. */
    private static void saveOfNoObject() {
        GraphSaver x = boxes(1);
        C.lay(x, 0, "ab");
        for (int none : new int[] {LEAST, -3, -2, 1, 29, 30, MOST}) {
            C.due("save " + none, x.save(0, none), BAD);
            C.due("save " + none + " where nothing is", x.save(1, none), BAD);
        }
        C.holds(x, 0, "ab");
        C.due("still nothing", x.sign(1, -1), -11);
    }

    /** 198 signs: 7 leaves of 27, two rows, and leaf 9, whose fields make it longer. */
    private static GraphSaver of198() {
        GraphSaver x = new GraphSaver();
        x.row(0, 6);
        x.row(0, 3);
        x.graft(0, 5, 1);
        for (int leaf = 2; leaf < 9; leaf++) {
            x.object(1);
            for (int name = 'a'; name <= 'f'; name++) {
                x.write(leaf, name, -10);
            }
            x.graft(leaf < 7 ? 0 : 1, leaf < 7 ? leaf - 2 : leaf - 7, leaf);
        }
        x.graft(1, 2, x.object(1));
        return x;
    }

    /** "A STREAM has 200 signs at most: an OBJECT that has more isn't SAVED." "FULL: more than 200." */
    private static void twoHundredSignsAtMost() {
        GraphSaver x = of198();
        C.due("198", x.save(0, 0), 198);
        x.write(9, 'a', 1);
        x.write(8, 'a', 10);
        C.due("199", x.save(0, 0), 199);
        x.write(8, 'a', -10);
        C.due("200", x.save(0, 0), 200);
        C.due("the last of 200", x.sign(0, 199), '.');
        x.write(9, 'a', 10);
        C.due("201", x.save(0, 0), FULL);
        C.due("201 where nothing is", x.save(1, 0), FULL);
        C.due("no shelf ahead of it", x.save(4, 0), BAD);
        x.write(9, 'a', -10);
        C.due("202", x.save(0, 0), FULL);
        C.due("the stream of 200 stays", x.sign(0, -1), 200);
        C.due("the stream of 200 stays", x.sign(0, 198), '1');
        C.due("still nothing", x.sign(1, -1), -11);
        C.due("a part of it is saved", x.save(1, 1), 3 + 27 + 27 + 7);
    }

    /** "the first (from 0) that is otherwise": at each place of a stream. */
    private static void judgedSignBySign() {
        GraphSaver x = boxes(2);
        x.graft(0, 0, 1);
        x.graft(1, 1, 0);
        x.write(1, 'b', -70);
        String signs = "B1.B1b-70.-#A-";
        C.due("save", x.save(0, 0), signs.length());
        for (int i = 0; i < signs.length(); i++) {
            x.put(0, i, signs.charAt(i) + 1);
            C.due("otherwise at " + i, x.judge(0, 0), i);
            if (i + 1 < signs.length()) {
                x.put(0, i + 1, 0);
                C.due("the first of two", x.judge(0, 0), i);
                x.put(0, i + 1, signs.charAt(i + 1));
            }
            x.put(0, i, signs.charAt(i));
        }
        C.due("as it is again", x.judge(0, 0), NOT);
    }

    /** "or beyond these; how many were told, if all are so and there are more". */
    private static void judgedBeyond() {
        GraphSaver x = boxes(1);
        String signs = "B1.--";
        for (int told = 0; told < signs.length(); told++) {
            C.lay(x, 0, signs.substring(0, told));
            C.due("there are more than " + told, x.judge(0, 0), told);
        }
        C.lay(x, 0, signs + "-");
        C.due("one beyond", x.judge(0, 0), 5);
        C.lay(x, 0, signs + (char) 0);
        C.due("one beyond, of 0", x.judge(0, 0), 5);
        C.lay(x, 0, signs + "B1.--");
        C.due("many beyond", x.judge(0, 0), 5);
        C.lay(x, 0, "B1.#-B1.--");
        C.due("otherwise ahead of beyond", x.judge(0, 0), 3);
        C.lay(x, 0, "B2");
        C.due("otherwise, and fewer", x.judge(0, 0), 1);
        x.shelf(0, 200);
        C.due("200 of 0", x.judge(0, 0), 0);
    }

    /** "NOT, if there are no more": also with 200 signs. */
    private static void judgedAsItIs() {
        GraphSaver x = of198();
        x.write(9, 'a', 1);
        C.due("save", x.save(0, 0), 200);
        C.due("200, all so", x.judge(0, 0), NOT);
        x.put(0, 199, 'b');
        C.due("200, the last otherwise", x.judge(0, 0), 199);
        x.write(8, 'a', 10);
        x.save(1, 0);
        C.due("199 of 199", x.judge(1, 0), NOT);
        x.write(8, 'a', -10);
        x.shelf(2, 199);
        for (int i = 0; i < 199; i++) {
            x.put(2, i, x.stream(0, i));
        }
        C.due("199 of 200", x.judge(2, 0), 199);
    }

    /** "for an OBJECT (-1: nothing)". */
    private static void judgedNothing() {
        GraphSaver x = new GraphSaver();
        C.lay(x, 0, "-");
        C.due("nothing", x.judge(0, -1), NOT);
        C.lay(x, 0, "--");
        C.due("beyond nothing", x.judge(0, -1), 1);
        C.lay(x, 0, "");
        C.due("none told", x.judge(0, -1), 0);
        C.lay(x, 0, "#");
        C.due("otherwise", x.judge(0, -1), 0);
    }

    /** "BAD; -11; FULL: it has more than 200." */
    private static void judgeAnswersInTheirOrder() {
        GraphSaver x = of198();
        x.write(9, 'a', 1);
        C.due("save", x.save(0, 0), 200);
        x.write(9, 'a', 10);
        C.due("more than 200", x.judge(0, 0), FULL);
        C.due("more than 200, nothing there", x.judge(1, 0), -11);
        C.due("more than 200, no shelf", x.judge(4, 0), BAD);
        C.due("a part of it has fewer", x.judge(0, 1), 2);
        for (int none : new int[] {LEAST, -2, 10, 29, 30, MOST}) {
            C.due("no object", x.judge(0, none), BAD);
            C.due("no object, nothing there", x.judge(1, none), BAD);
        }
    }

    /** "In thought (nothing changes)": the stream and THE FAIL stay, whatever is told there. */
    private static void judgedInThought() {
        GraphSaver x = boxes(1);
        C.fails(x, "--", 7, 1);
        C.lay(x, 0, "L4");
        C.due("judge", x.judge(0, 0), 0);
        C.holds(x, 0, "L4");
        C.causesAre(x, "the fail", 7, 1);
        C.due("none was made", x.count(0), 1);
    }
}
