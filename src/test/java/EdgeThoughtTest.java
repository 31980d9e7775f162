/**
 * The boundary cases that the document names for REACH, SHARED, ROUND, DEEP, ALIKE, STREAMS, KEPT
 * and in promises 24 to 27: a method a sentence, which stands ahead of it.
 */
public final class EdgeThoughtTest {
    private static final int BAD = GraphSaver.BAD, NOT = GraphSaver.NOT, FULL = GraphSaver.FULL;
    private static final int LEAST = Integer.MIN_VALUE, MOST = Integer.MAX_VALUE;
    private static final int[] NO_OBJECTS = {LEAST, -2, -1, 4, 29, 30, MOST};
    private static final Check C = new Check();

    public static void main(String[] args) {
        reachOfOneAlone();
        reachOfThirty();
        sharedByTwoRefs();
        sharedByRefsInTheReachAlone();
        roundByItself();
        roundFurtherIn();
        roundOfThirty();
        notRoundWhereShared();
        deepByTheLongestWay();
        deepWhereRound();
        deepOfThirty();
        signsToldAndFull();
        toldNumbers();
        reachesItself();
        reachesOneWay();
        reachesNumbers();
        alikeItself();
        alikeKinds();
        alikeFields();
        alikeWhateverTheVersion();
        alikeRefs();
        alikeOneForOne();
        alikeRings();
        alikeThoseInside();
        alikeOfThirty();
        alikeNumbers();
        streamPlaces();
        streamFullAheadOfNot();
        keptFields();
        nothingChanges();
        C.end();
    }

    private static GraphSaver boxes(int n) {
        GraphSaver x = new GraphSaver();
        for (int i = 0; i < n; i++) {
            x.object(2);
        }
        return x;
    }

    /** Thirty rows, the first led to by nobody, each other one by the one ahead. */
    private static GraphSaver chainOf30(int first, int step) {
        GraphSaver x = new GraphSaver();
        for (int i = 0; i < 30; i++) {
            x.row(0, 2);
        }
        for (int i = 0; i < 29; i++) {
            x.graft(first + step * i, 1, first + step * (i + 1));
        }
        return x;
    }

    private static void toldAre(String what, GraphSaver x, int object, int... due) {
        for (int i = 0; i < due.length; i++) {
            C.due(what + ", told(" + object + ", " + i + ")", x.told(object, i), due[i]);
        }
    }

    /** "REACH of an OBJECT: itself and all that its REFS lead to": itself alone, of each kind. */
    private static void reachOfOneAlone() {
        GraphSaver x = new GraphSaver();
        for (int kind = 1; kind <= 3; kind++) {
            x.object(kind);
        }
        x.row(0, 0);
        x.row(3, 6);
        for (int object = 0; object < 5; object++) {
            toldAre("alone", x, object, 1, 0, 0, 1);
        }
    }

    /** "all that its REFS lead to": thirty, from either end. */
    private static void reachOfThirty() {
        GraphSaver x = chainOf30(0, 1);
        for (int i = 0; i < 30; i++) {
            C.due("reach of " + i, x.told(i, 0), 30 - i);
        }
        x.graft(29, 0, 0);
        C.due("round: all", x.told(15, 0), 30);
    }

    /** "SHARED: those in it that two or more REFS in it are for": two, three, of one or of several objects. */
    private static void sharedByTwoRefs() {
        GraphSaver x = boxes(4);
        x.object(3);
        x.graft(4, 0, 0);
        C.due("one ref", x.told(4, 1), 0);
        x.graft(4, 2, 0);
        C.due("two refs of one object", x.told(4, 1), 1);
        x.graft(4, 1, 0);
        C.due("three refs are one shared", x.told(4, 1), 1);
        x.graft(0, 0, 1);
        x.graft(4, 1, 1);
        C.due("refs of two objects", x.told(4, 1), 2);
        x.graft(1, 0, 1);
        C.due("three for that one", x.told(4, 1), 2);
        x.graft(1, 1, 4);
        C.due("one ref for the first itself", x.told(4, 1), 2);
        x.graft(0, 1, 4);
        C.due("two refs for the first itself", x.told(4, 1), 3);
    }

    /** "(of OBJECTS in it)": refs from outside of the reach don't count. */
    private static void sharedByRefsInTheReachAlone() {
        GraphSaver x = boxes(3);
        x.graft(0, 0, 1);
        x.graft(2, 0, 1);
        x.graft(2, 1, 0);
        C.due("of 0: one ref in it", x.told(0, 1), 0);
        C.due("of 1: none in it", x.told(1, 1), 0);
        C.due("of 2: both in it", x.told(2, 1), 1);
        x.graft(1, 0, 1);
        C.due("its own ref alone", x.told(1, 1), 0);
        C.due("its own ref, and one for it", x.told(0, 1), 1);
        x.graft(1, 1, 1);
        C.due("its own two", x.told(1, 1), 1);
    }

    /** "ROUND: whether an OBJECT in it is in the REACH of one of its own REFS": the object itself, by any ref. */
    private static void roundByItself() {
        for (int i = 0; i < 3; i++) {
            GraphSaver x = new GraphSaver();
            x.object(3);
            C.due("not round", x.told(0, 2), 0);
            x.graft(0, i, 0);
            toldAre("round by ref " + i, x, 0, 1, 0, 1, NOT);
        }
        GraphSaver y = new GraphSaver();
        y.row(0, 6);
        y.graft(0, 5, 0);
        toldAre("a row in itself", y, 0, 1, 0, 1, NOT);
    }

    /** "an OBJECT in it": one that only is led to; one that leads to it is not in it. */
    private static void roundFurtherIn() {
        GraphSaver x = boxes(5);
        x.graft(0, 0, 1);
        x.graft(1, 1, 2);
        x.graft(2, 0, 3);
        x.graft(3, 1, 2);
        x.graft(2, 1, 4);
        C.due("further in", x.told(0, 2), 1);
        C.due("one of the ring", x.told(3, 2), 1);
        C.due("behind the ring", x.told(4, 2), 0);
        C.due("behind the ring, deep", x.told(4, 3), 1);
        x.graft(3, 1, 4);
        C.due("the ring is open", x.told(0, 2), 0);
        C.due("deep", x.told(0, 3), 5);
    }

    /** A ring of all thirty, and of twenty-nine behind one. */
    private static void roundOfThirty() {
        for (int step = -1; step <= 1; step += 2) {
            int first = step < 0 ? 29 : 0;
            GraphSaver x = chainOf30(first, step);
            C.due("no ring", x.told(first, 2), 0);
            x.graft(first + step * 29, 0, first);
            toldAre("a ring of thirty", x, first, 30, 0, 1, NOT);
            x.graft(first + step * 29, 0, first + step);
            toldAre("a ring of twenty-nine", x, first, 30, 1, 1, NOT);
        }
    }

    /** What is met twice, but not behind itself, goes not round. */
    private static void notRoundWhereShared() {
        GraphSaver x = boxes(4);
        x.graft(0, 0, 1);
        x.graft(0, 1, 2);
        x.graft(1, 0, 3);
        x.graft(1, 1, 3);
        x.graft(2, 0, 3);
        x.graft(2, 1, 1);
        toldAre("shared, not round", x, 0, 4, 2, 0, 4);
    }

    /** "DEEP: the most OBJECTS one behind the other by REFS, itself the first". */
    private static void deepByTheLongestWay() {
        GraphSaver x = boxes(6);
        x.graft(0, 0, 5);
        x.graft(0, 1, 1);
        C.due("two", x.told(0, 3), 2);
        x.graft(1, 0, 5);
        C.due("three, behind the shorter way", x.told(0, 3), 3);
        x.graft(5, 0, 4);
        x.graft(4, 0, 3);
        C.due("five", x.told(0, 3), 5);
        C.due("three from 5", x.told(5, 3), 3);
        x.graft(1, 1, 2);
        x.graft(2, 0, 4);
        C.due("as long another way", x.told(0, 3), 5);
        x.graft(2, 0, 5);
        C.due("all six", x.told(0, 3), 6);
    }

    /** "(ROUND: NOT)". */
    private static void deepWhereRound() {
        GraphSaver x = boxes(3);
        x.graft(0, 0, 1);
        x.graft(1, 0, 2);
        C.due("three", x.told(0, 3), 3);
        x.graft(2, 0, 0);
        for (int object = 0; object < 3; object++) {
            C.due("round", x.told(object, 3), NOT);
        }
        x.graft(2, 0, 2);
        C.due("round at its end", x.told(0, 3), NOT);
        x.graft(2, 0, -1);
        C.due("three again", x.told(0, 3), 3);
    }

    /** Thirty one behind the other, whichever way the numbers go, with short ways beside. */
    private static void deepOfThirty() {
        for (int step = -1; step <= 1; step += 2) {
            int first = step < 0 ? 29 : 0;
            GraphSaver x = chainOf30(first, step);
            C.due("thirty", x.told(first, 3), 30);
            for (int i = 0; i < 28; i++) {
                x.graft(first + step * i, 0, first + step * 29);
            }
            toldAre("thirty, with short ways", x, first, 30, 1, 0, 30);
        }
    }

    /** "signs SAVED (4; FULL)": 200 are told, 201 aren't; the rest of it is told all the same. */
    private static void signsToldAndFull() {
        GraphSaver x = new GraphSaver();
        C.due("load", C.load(x, longest()), 0);
        toldAre("200", x, 0, 10, 0, 0, 3, 200);
        x.write(9, 'a', 10);
        toldAre("201", x, 0, 10, 0, 0, 3, FULL);
        C.due("a part of it", x.told(6, 4), 3 + 27 + 27 + 6);
        C.due("no sort of thing", x.told(0, 5), BAD);
    }

    /** 200 signs in ten objects; a digit more in leaf 9 makes it 201. */
    private static String longest() {
        String leaf = "L1a-10b-10c-10d-10e-10f-10.";
        return "R06" + leaf.repeat(5) + "R03" + leaf.repeat(2) + "L1a1.";
    }

    /** "BAD": no such object, whatever is asked; nothing that is told so. */
    private static void toldNumbers() {
        GraphSaver x = boxes(4);
        for (int none : NO_OBJECTS) {
            for (int what = -1; what <= 5; what++) {
                C.due("told " + none, x.told(none, what), BAD);
            }
        }
        for (int what : new int[] {LEAST, -2, -1, 5, 6, MOST}) {
            C.due("what " + what, x.told(0, what), BAD);
        }
    }

    /** "(other; perhaps the same one)": each is in its own reach. */
    private static void reachesItself() {
        GraphSaver x = boxes(30);
        for (int i = 0; i < 30; i++) {
            C.due("itself " + i, x.reaches(i, i), 1);
        }
        C.due("another one", x.reaches(0, 29), 0);
    }

    /** "Whether the first OBJECT (object) is in the REACH of the second". */
    private static void reachesOneWay() {
        GraphSaver x = chainOf30(0, 1);
        C.due("29 in the reach of 0", x.reaches(29, 0), 1);
        C.due("0 in the reach of 29", x.reaches(0, 29), 0);
        C.due("14 in the reach of 15", x.reaches(14, 15), 0);
        C.due("15 in the reach of 14", x.reaches(15, 14), 1);
        x.graft(29, 0, 0);
        C.due("round: 0 in the reach of 29", x.reaches(0, 29), 1);
        x.graft(15, 1, -1);
        C.due("open: 29 in the reach of 0", x.reaches(29, 0), 0);
        C.due("open: 15 in the reach of 16", x.reaches(15, 16), 1);
    }

    /** "BAD": either of them. */
    private static void reachesNumbers() {
        GraphSaver x = boxes(4);
        for (int none : NO_OBJECTS) {
            C.due("reaches " + none, x.reaches(none, 0), BAD);
            C.due("reaches of " + none, x.reaches(0, none), BAD);
            C.due("reaches both " + none, x.reaches(none, none), BAD);
        }
    }

    /** ALIKE to itself is each, also one that goes round. */
    private static void alikeItself() {
        GraphSaver x = boxes(3);
        x.row(0, 3);
        x.graft(3, 0, 0);
        x.graft(3, 2, 3);
        x.graft(0, 1, 3);
        x.write(0, 'a', -1);
        for (int i = 0; i < 4; i++) {
            C.due("itself", x.alike(i, i), 1);
        }
    }

    /** "of the same KIND (ROWS: k, length)". */
    private static void alikeKinds() {
        GraphSaver x = new GraphSaver();
        for (int kind = 1; kind <= 3; kind++) {
            x.object(kind);
        }
        x.row(0, 0);
        x.row(0, 2);
        x.row(2, 2);
        x.row(2, 3);
        for (int one = 0; one < 7; one++) {
            for (int other = 0; other < 7; other++) {
                C.due(one + " and " + other, x.alike(one, other), one == other ? 1 : 0);
            }
            int same = x.graph(one);
            C.due("one of the same sort", x.alike(one, same), 1);
        }
    }

    /** "with the same FIELDS in the same order": names, numbers, how many, order. */
    private static void alikeFields() {
        GraphSaver x = new GraphSaver();
        String[] fields = {"", "a1", "a2", "b1", "a1b1", "b1a1", "a1b1c1", "a-1b1", "a1b1c1d1e1f1", "a1b1c1d1e1g1"};
        for (int i = 0; i < fields.length; i++) {
            C.due("load", C.load(x, "L1" + fields[i] + "."), i);
        }
        for (int one = 0; one < fields.length; one++) {
            for (int other = 0; other < fields.length; other++) {
                C.due(fields[one] + " and " + fields[other], x.alike(one, other), one == other ? 1 : 0);
            }
        }
        C.due("load", C.load(x, "L1a1b1."), 10);
        C.due("the same fields", x.alike(4, 10), 1);
    }

    /** KEPT fields are fields as others; versions and defaults are not looked at. */
    private static void alikeWhateverTheVersion() {
        GraphSaver x = new GraphSaver();
        x.schema(1, 1, 'a', 5);
        x.schema(1, 2, 'b', 6);
        x.object(1);
        x.version(1, 2);
        x.object(1);
        C.due("fields of two versions", x.alike(0, 1), 0);
        x.forget(1, 'b');
        x.write(1, 'a', 5);
        C.due("the same fields", x.alike(0, 1), 1);
    }

    /** "going through both at once, REF by REF": nothing stands for nothing alone, place by place. */
    private static void alikeRefs() {
        GraphSaver x = boxes(6);
        x.object(1);
        x.object(1);
        x.graft(0, 0, 6);
        x.graft(1, 1, 6);
        x.graft(2, 0, 7);
        x.graft(3, 0, 6);
        x.graft(3, 1, 7);
        x.graft(4, 0, 5);
        C.due("another place", x.alike(0, 1), 0);
        C.due("one like it", x.alike(0, 2), 1);
        C.due("one more", x.alike(0, 3), 0);
        C.due("one less", x.alike(3, 0), 0);
        C.due("another kind", x.alike(0, 4), 0);
        C.due("another kind", x.alike(4, 0), 0);
        x.write(7, 'h', 0);
        C.due("another one inside", x.alike(0, 2), 0);
        C.due("nothing and something", x.alike(5, 0), 0);
    }

    /** "each of the one stands for just one of the other": seen from both. */
    private static void alikeOneForOne() {
        GraphSaver x = boxes(3);
        x.object(1);
        x.object(1);
        int[][] refs = {{3, 3}, {3, 4}, {4, 3}};
        for (int i = 0; i < 3; i++) {
            x.graft(i, 0, refs[i][0]);
            x.graft(i, 1, refs[i][1]);
        }
        C.due("one and two", x.alike(0, 1), 0);
        C.due("two and one", x.alike(1, 0), 0);
        C.due("two and two, crosswise", x.alike(1, 2), 1);
        x.graft(2, 1, 4);
        C.due("one and another one", x.alike(0, 2), 1);
        GraphSaver y = new GraphSaver();
        C.due("load", C.load(y, "B1.B1.L1.-B1.L1.-"), 0);
        C.due("load", C.load(y, "B1.B1.L1.-B1.#C-"), 5);
        C.due("one further in, and two", y.alike(5, 0), 0);
        C.due("two further in, and one", y.alike(0, 5), 0);
    }

    /** Rings of another length, and those that come back to another one, are not alike. */
    private static void alikeRings() {
        GraphSaver x = new GraphSaver();
        String[] signs = {"B1.#A-", "B1.B1.#A--", "B1.B1.#B--", "B1.B1.B1.#A---", "B1.B1.B1.#B---", "B1.-#A"};
        int[] numbers = new int[signs.length];
        for (int i = 0; i < signs.length; i++) {
            numbers[i] = C.load(x, signs[i]);
        }
        for (int one = 0; one < signs.length; one++) {
            for (int other = 0; other < signs.length; other++) {
                int got = x.alike(numbers[one], numbers[other]);
                C.due(signs[one] + " and " + signs[other], got, one == other ? 1 : 0);
            }
        }
    }

    /** Two that are in one graph: each of a ring is alike to each, also if an object stands for itself. */
    private static void alikeThoseInside() {
        GraphSaver x = boxes(4);
        for (int i = 0; i < 3; i++) {
            x.graft(i, 0, (i + 1) % 3);
        }
        for (int one = 0; one < 3; one++) {
            for (int other = 0; other < 3; other++) {
                C.due("of one ring", x.alike(one, other), 1);
            }
        }
        x.graft(1, 1, 3);
        C.due("not any more", x.alike(0, 1), 0);
        GraphSaver y = boxes(3);
        y.graft(0, 0, 2);
        y.graft(1, 0, 2);
        C.due("the same one in both", y.alike(0, 1), 1);
        y.graft(2, 0, 0);
        C.due("it leads to the one alone", y.alike(0, 1), 0);
        C.due("it leads to the one alone", y.alike(1, 0), 0);
    }

    /** Chains of fifteen, too long to be SAVED, and rings of thirty. */
    private static void alikeOfThirty() {
        GraphSaver x = boxes(30);
        for (int i = 0; i < 30; i++) {
            x.graft(i, 1, i % 15 < 14 ? i + 1 : -1);
            for (int name = 'a'; name <= 'd'; name++) {
                x.write(i, name, -20 - i % 15);
            }
        }
        C.due("not SAVED", x.told(0, 4), FULL);
        C.due("alike", x.alike(0, 15), 1);
        x.write(29, 'd', 0);
        C.due("the last field of the last", x.alike(0, 15), 0);
        GraphSaver y = chainOf30(0, 1);
        y.graft(29, 1, 0);
        C.due("a ring of thirty", y.alike(0, 29), 1);
        C.due("a ring of thirty", y.alike(17, 3), 1);
    }

    /** "BAD": either of them. */
    private static void alikeNumbers() {
        GraphSaver x = boxes(4);
        for (int none : NO_OBJECTS) {
            C.due("alike " + none, x.alike(none, 0), BAD);
            C.due("alike to " + none, x.alike(0, none), BAD);
            C.due("alike both " + none, x.alike(none, none), BAD);
        }
    }

    /** "The k-th sign of STREAMS. BAD (k below 0); .. NOT: there are not as many." */
    private static void streamPlaces() {
        GraphSaver x = boxes(4);
        C.streams(x, 3, "B1.--");
        for (int k : new int[] {5, 6, 199, 200, 201, MOST}) {
            C.due("stream " + k, x.stream(3, k), NOT);
        }
        for (int k : new int[] {-1, -2, LEAST}) {
            C.due("stream " + k, x.stream(3, k), BAD);
        }
        for (int none : NO_OBJECTS) {
            C.due("stream of " + none, x.stream(none, 0), BAD);
            C.due("stream of " + none, x.stream(none, 500), BAD);
        }
    }

    /** "FULL, ahead of NOT: it isn't SAVED". */
    private static void streamFullAheadOfNot() {
        GraphSaver x = new GraphSaver();
        C.due("load", C.load(x, longest()), 0);
        C.streams(x, 0, longest());
        C.due("the 200th", x.stream(0, 199), '.');
        C.due("the 201st of 200", x.stream(0, 200), NOT);
        x.write(9, 'a', 10);
        for (int k : new int[] {0, 1, 199, 200, 201, MOST}) {
            C.due("201, sign " + k, x.stream(0, k), FULL);
        }
        C.due("201, BAD ahead", x.stream(0, -1), BAD);
        C.due("a part of it", x.stream(9, 0), 'L');
    }

    /** "KEPT: FIELDS of an OBJECT that its KIND's CURRENT VERSION doesn't have." */
    private static void keptFields() {
        GraphSaver x = new GraphSaver();
        for (int kind = 1; kind <= 3; kind++) {
            x.object(kind);
            C.due("no fields", x.of(kind - 1, 3), 0);
        }
        for (int name = 'a'; name <= 'f'; name++) {
            x.write(0, name, 1);
        }
        C.due("six, and no names", x.of(0, 3), 6);
        x.schema(1, 1, 'f', 5);
        x.schema(1, 1, 'g', 5);
        x.schema(2, 1, 'a', 5);
        C.due("five of six", x.of(0, 3), 5);
        x.version(1, 2);
        C.due("by another version", x.of(0, 3), 6);
        x.version(1, 1);
        x.forget(0, 'f');
        C.due("one less that wasn't kept", x.of(0, 3), 5);
        x.forget(0, 'a');
        C.due("one less that was", x.of(0, 3), 4);
        x.row(0, 2);
        C.due("a row has none", x.of(3, 3), 0);
    }

    /** "In thought (nothing changes)". */
    private static void nothingChanges() {
        GraphSaver x = Seen.run(new GraphSaver(), Seen.ORDINARY);
        String before = Seen.all(Seen.run(new GraphSaver(), Seen.ORDINARY));
        for (int object = -1; object < 8; object++) {
            for (int other = -1; other < 8; other++) {
                x.reaches(object, other);
                x.alike(object, other);
            }
            for (int what = -1; what < 6; what++) {
                x.told(object, what);
                x.stream(object, what);
            }
        }
        C.isTrue("all is as before", Seen.all(x).equals(before));
    }
}
