/**
 * The boundary cases that the document names for LOADED, FAILS, THE FAIL and in promises 21 and 22:
 * a method a sentence, which stands ahead of it.
 */
public final class EdgeLoadTest {
    private static final int BAD = GraphSaver.BAD, NOT = GraphSaver.NOT, STATE = GraphSaver.STATE;
    private static final int LEAST = Integer.MIN_VALUE, MOST = Integer.MAX_VALUE;
    private static final Check C = new Check();

    public static void main(String[] args) {
        wholeOfEachSort();
        loadOfEachShelf();
        numbersAsTheyAreMade();
        refsInTheirPlaces();
        fieldsAsTheyAreTold();
        defaultsBehindThoseTold();
        versionToldMakesNone();
        defaultsAboveSixLeftOut();
        letters();
        versionDigits();
        rowDigits();
        idSigns();
        idThatNoneHasYet();
        names();
        everyNumber();
        wrongNumbers();
        endsTooEarly();
        endsTooEarlyEverywhere();
        rowCannotHold();
        rowCannotHoldMetOnes();
        rowLooksWhenItIsWhole();
        thirtyFirstObject();
        thirtyFirstAtItsLetter();
        thirteenthInside();
        thirteenthAheadOfThirtyFirst();
        nameTwice();
        seventhField();
        signsBehindTheWhole();
        passedOnFromDigitsAndFields();
        passedOnInnerFirst();
        madeOnesAreNoMore();
        failStays();
        causeNumbers();
        C.end();
    }

    private static GraphSaver leaves(int n) {
        GraphSaver x = new GraphSaver();
        for (int i = 0; i < n; i++) {
            x.object(1);
        }
        return x;
    }

    private static void loads(String signs) {
        GraphSaver x = new GraphSaver();
        C.due("load of " + signs, C.load(x, signs), 0);
        C.streams(x, 0, signs);
    }

    private static void failsAnew(String signs, int... causes) {
        C.fails(new GraphSaver(), signs, causes);
    }

    /** "the number of the whole (NOT: nothing)"; "KINDS by letters". */
    private static void wholeOfEachSort() {
        GraphSaver x = new GraphSaver();
        C.due("nothing", C.load(x, "-"), NOT);
        C.due("none was made", x.count(0), 0);
        String[] signs = {"L1.", "B1.--", "C1.---", "R00", "R36------"};
        for (int i = 0; i < signs.length; i++) {
            C.due("load of " + signs[i], C.load(x, signs[i]), i);
            C.due("its kind", x.of(i, 0), Math.min(4, i + 1));
            C.streams(x, i, signs[i]);
        }
        C.due("nothing failed", x.cause(0, 0), NOT);
    }

    /** "BAD (SHELF); -11", neither of which is a FAIL; the stream stays on its shelf. */
    private static void loadOfEachShelf() {
        GraphSaver x = new GraphSaver();
        for (int none : new int[] {LEAST, -2, -1, 4, MOST}) {
            C.due("load " + none, x.load(none), BAD);
        }
        for (int shelf = 0; shelf < 4; shelf++) {
            C.due("nothing there", x.load(shelf), -11);
            C.lay(x, shelf, "R0" + shelf + "-".repeat(shelf));
            C.due("load", x.load(shelf), shelf);
            C.due("its length", x.of(shelf, 2), shelf);
            C.holds(x, shelf, "R0" + shelf + "-".repeat(shelf));
        }
        x.shelf(2, -1);
        C.due("nothing there any more", x.load(2), -11);
        C.due("none of it is a fail", x.cause(0, 0), NOT);
    }

    /** "an OBJECT is made as its FIELDS have been read, with REFS that come then": outer ones ahead. */
    private static void numbersAsTheyAreMade() {
        GraphSaver x = leaves(8);
        for (int handle = 0; handle < 4; handle++) {
            x.hold(handle, 2 * handle + 1);
        }
        C.due("0, 2, 4, 6 are free", x.sweep(), 4);
        C.due("load", C.load(x, "C1.B1.-L1.R00B1.--"), 0);
        C.due("second", x.ref(0, 0), 2);
        C.due("third, inside of it", x.ref(2, 1), 4);
        C.due("fourth", x.ref(0, 1), 6);
        C.due("fifth, behind those that were there", x.ref(0, 2), 8);
        C.due("nine", x.count(0), 9);
    }

    /** "each put in its place as it is LOADED; # stands for the one with that ID". */
    private static void refsInTheirPlaces() {
        GraphSaver x = leaves(1);
        C.due("load", C.load(x, "R06-B1.#A#B-L1.#C#B"), 1);
        int[] due = {NOT, 2, NOT, 3, 3, 2};
        for (int i = 0; i < 6; i++) {
            C.due("ref " + i, x.ref(1, i), due[i]);
        }
        C.due("one not whole yet", x.ref(2, 0), 1);
        C.due("itself", x.ref(2, 1), 2);
        C.due("the leaf there was is none of these", x.reaches(0, 1), 0);
    }

    /** "FIELDS: as they are told": in that order, six at most, without a schema. */
    private static void fieldsAsTheyAreTold() {
        loads("L1h0a-99c99f-1b10d1.");
        loads("B1h-10g-9f9e0d5c50.--");
        loads("C1d0.---");
    }

    /** "then those of its KIND's CURRENT VERSION that aren't, by DEFAULTS": behind, in their order. */
    private static void defaultsBehindThoseTold() {
        GraphSaver x = new GraphSaver();
        x.schema(2, 1, 'c', 1);
        x.schema(2, 1, 'a', -2);
        x.schema(2, 1, 'h', 99);
        x.schema(3, 1, 'b', 4);
        C.due("none told", C.load(x, "B1.--"), 0);
        C.streams(x, 0, "B1c1a-2h99.--");
        C.due("one of them told", C.load(x, "B1a5.--"), 1);
        C.streams(x, 1, "B1a5c1h99.--");
        C.due("others told", C.load(x, "B1d0h-1b7.--"), 2);
        C.streams(x, 2, "B1d0h-1b7c1a-2.--");
        C.due("all told", C.load(x, "B1h1a2c3.--"), 3);
        C.streams(x, 3, "B1h1a2c3.--");
        C.due("of each its own kind's", C.load(x, "C1.B1h0.--L1.-"), 4);
        C.streams(x, 4, "C1b4.B1h0c1a-2.--L1.-");
    }

    /** "of the VERSION told is no more made": the current one's defaults, the current one's digit. */
    private static void versionToldMakesNone() {
        GraphSaver x = new GraphSaver();
        for (int version = 1; version <= 3; version++) {
            x.schema(1, version, 'a' + version, 10 * version);
        }
        x.version(1, 2);
        for (int told = 1; told <= 3; told++) {
            C.due("load", C.load(x, "L" + told + "."), told - 1);
            C.streams(x, told - 1, "L2c20.");
        }
        C.due("what it was stays", x.version(1, 3), 2);
        C.due("load", C.load(x, "L2c5."), 3);
        C.streams(x, 3, "L3c5d30.");
        C.due("kept", x.of(3, 3), 1);
    }

    /** "above 6: they are left out": those for which there is room come. */
    private static void defaultsAboveSixLeftOut() {
        GraphSaver x = new GraphSaver();
        for (int name = 'a'; name <= 'd'; name++) {
            x.schema(1, 1, name, 1);
        }
        String[][] runs = {{"L1g2h2.", "L1g2h2a1b1c1d1."}, {"L1f2g2h2.", "L1f2g2h2a1b1c1."},
            {"L1f2g2h2a2.", "L1f2g2h2a2b1c1."}, {"L1f2g2h2b2.", "L1f2g2h2b2a1c1."},
            {"L1d2e2f2g2h2.", "L1d2e2f2g2h2a1."}, {"L1a2e2f2g2h2.", "L1a2e2f2g2h2b1."},
            {"L1b2c2e2f2g2h2.", "L1b2c2e2f2g2h2."}, {"L1a2b2c2d2g2h2.", "L1a2b2c2d2g2h2."}};
        for (int i = 0; i < runs.length; i++) {
            C.due("load of " + runs[i][0], C.load(x, runs[i][0]), i);
            C.streams(x, i, runs[i][1]);
        }
    }

    /** "1 a sign with which no STREAM goes on": of all signs, six begin one. */
    private static void letters() {
        for (int c = 0; c <= 255; c++) {
            if ("LBCR#-".indexOf(c) < 0) {
                failsAnew("" + (char) c, 1, 0);
                failsAnew("B1.-" + (char) c, 8, 0, 1, 4);
            }
        }
        failsAnew("L", 8, 0, 1, 1);
        failsAnew("B", 8, 0, 1, 1);
        failsAnew("C", 8, 0, 1, 1);
        failsAnew("R", 8, 0, 1, 1);
        failsAnew("#", 1, 1);
        C.due("nothing", C.load(new GraphSaver(), "-"), NOT);
    }

    /** "a VERSION is 1 .. 3". */
    private static void versionDigits() {
        String[] behind = {".", ".--", ".---"};
        for (int kind = 1; kind <= 3; kind++) {
            for (int c = 0; c <= 255; c++) {
                String signs = "" + "LBC".charAt(kind - 1) + (char) c + behind[kind - 1];
                if (c >= '1' && c <= '3') {
                    C.due("load of " + signs, C.load(new GraphSaver(), signs), 0);
                } else {
                    failsAnew(signs, 8, 0, 1, 1);
                }
            }
        }
    }

    /** "k 0 .. 3, a length 0 .. 6". */
    private static void rowDigits() {
        for (int c = 0; c <= 255; c++) {
            if (c >= '0' && c <= '3') {
                loads("R" + (char) c + "0");
            } else {
                failsAnew("R" + (char) c + "0", 8, 0, 1, 1);
            }
            if (c >= '0' && c <= '6') {
                loads("R0" + (char) c + "-".repeat(c - '0'));
            } else {
                failsAnew("R0" + (char) c + "-------", 8, 0, 1, 2);
            }
        }
    }

    /** "an ID a sign from A to ^"; "2 an ID that none has yet", with the place "of 2 its letter". */
    private static void idSigns() {
        for (int c = 0; c <= 255; c++) {
            if (c == 'A' || c == 'B') {
                loads("R02L1.#" + (char) c);
            } else if (c > 'B' && c <= '^') {
                failsAnew("R02L1.#" + (char) c, 8, 0, 2, 7);
            } else {
                failsAnew("R02L1.#" + (char) c, 8, 0, 1, 7);
            }
        }
        failsAnew("R02L1.#", 8, 0, 1, 7);
    }

    /** "2 an ID that none has yet": one that comes later, the very next one, one of an object outside. */
    private static void idThatNoneHasYet() {
        failsAnew("#A", 2, 1);
        C.fails(leaves(30), "#A", 2, 1);
        C.fails(leaves(3), "R01#B", 8, 0, 2, 4);
        failsAnew("R02#BL1.", 8, 0, 2, 4);
        failsAnew("B1.#AB1.#C-", 8, 0, 8, 5, 2, 9);
        loads("B1.#AB1.#B#A");
        StringBuilder signs = new StringBuilder("R06");
        for (int i = 0; i < 4; i++) {
            signs.append("R06L1.L1.L1.L1.L1.L1.");
        }
        loads(signs + "#]-");
        failsAnew(signs + "#^-", 8, 0, 2, signs.length() + 1);
        loads(signs + "L1.#^");
    }

    /** "a name (a .. h)" or a . is what goes on behind a version and behind a number. */
    private static void names() {
        for (int c = 0; c <= 255; c++) {
            if (c >= 'a' && c <= 'h') {
                loads("L1" + (char) c + "7.");
            } else if (c != '.') {
                failsAnew("L1" + (char) c + "7.", 8, 0, 1, 2);
                if (c < '0' || c > '9') {
                    failsAnew("L1a5" + (char) c + ".", 8, 0, 1, 4);
                }
            }
        }
    }

    /** "a number as it is SAVED": each from -99 to 99. */
    private static void everyNumber() {
        for (int v = -99; v <= 99; v++) {
            GraphSaver x = new GraphSaver();
            C.due("load of " + v, C.load(x, "L1e" + v + "f" + -v + "."), 0);
            C.due("it is", x.read(0, 'e'), v);
            C.due("the other is", x.read(0, 'f'), -v);
        }
    }

    /** "1 or 2 digits, no 0 ahead of another one, none behind a -". */
    private static void wrongNumbers() {
        for (int digit = 0; digit <= 9; digit++) {
            failsAnew("L1a0" + digit + ".", 8, 0, 1, 4);
            failsAnew("L1a-0" + digit + ".", 8, 0, 1, 4);
            failsAnew("L1a10" + digit + ".", 8, 0, 1, 5);
            failsAnew("L1a-99" + digit + ".", 8, 0, 1, 6);
        }
        failsAnew("L1a-0.", 8, 0, 1, 4);
        failsAnew("L1a.", 8, 0, 1, 3);
        failsAnew("L1ab1.", 8, 0, 1, 3);
        failsAnew("L1a-.", 8, 0, 1, 4);
        failsAnew("L1a--1.", 8, 0, 1, 4);
        failsAnew("L1a+1.", 8, 0, 1, 3);
        failsAnew("L1a1-1.", 8, 0, 1, 4);
        failsAnew("L1a/.", 8, 0, 1, 3);
        failsAnew("L1a:.", 8, 0, 1, 3);
        failsAnew("L1a1:.", 8, 0, 1, 4);
        failsAnew("L1a1/.", 8, 0, 1, 4);
    }

    /** "(or it ends too early: the length": a stream of none, too. */
    private static void endsTooEarly() {
        failsAnew("", 1, 0);
        failsAnew("#", 1, 1);
        failsAnew("L1a1b-", 8, 0, 1, 6);
        failsAnew("R06-----", 8, 0, 1, 8);
        GraphSaver x = leaves(30);
        C.fails(x, "", 1, 0);
        x.shelf(3, 200);
        C.due("200 of 0", x.load(3), STATE);
        C.causesAre(x, "200 of 0", 1, 0);
    }

    /** "it ends too early: the length": wherever it ends; open are those whose letter was taken. */
    private static void endsTooEarlyEverywhere() {
        String signs = "B1.R01L1a-5.-";
        String[] open = {"", "0", "0", "0", "03", "03", "03", "036", "036", "036", "036", "036", "0"};
        for (int length = 0; length < signs.length(); length++) {
            int[] causes = new int[2 * open[length].length() + 2];
            for (int i = 0; i < open[length].length(); i++) {
                causes[2 * i] = 8;
                causes[2 * i + 1] = open[length].charAt(i) - '0';
            }
            causes[causes.length - 2] = 1;
            causes[causes.length - 1] = length;
            failsAnew(signs.substring(0, length), causes);
        }
        loads(signs);
    }

    /** "3 an OBJECT that the ROW can't hold": each kind in a row for each, with the place where it begins. */
    private static void rowCannotHold() {
        String[] parts = {"L1.", "B1.--", "C1.---", "R00"};
        String[] held = {"LBCR", "L", "BC", "C"};
        for (int k = 0; k <= 3; k++) {
            for (String part : parts) {
                String signs = "R" + k + "2-" + part;
                if (held[k].indexOf(part.charAt(0)) >= 0) {
                    loads(signs);
                } else {
                    failsAnew(signs, 8, 0, 3, 4);
                    failsAnew("B1." + signs + "-", 8, 0, 8, 3, 3, 7);
                }
            }
            loads("R" + k + "3---");
        }
        loads("B1.R00R11-");
        loads("C1.R01R21--#A");
    }

    /** "(.. # too)": one that is whole, one that isn't yet, the row itself; it begins with the #. */
    private static void rowCannotHoldMetOnes() {
        failsAnew("R11#A", 8, 0, 3, 3);
        failsAnew("R31#A", 8, 0, 3, 3);
        failsAnew("R12-#A", 8, 0, 3, 4);
        failsAnew("B1.L1.R21#B", 8, 0, 8, 6, 3, 9);
        failsAnew("B1.-R11#A", 8, 0, 8, 4, 3, 7);
        failsAnew("C1.R31#AR31B1.---", 8, 0, 8, 8, 3, 11);
        failsAnew("B1.R31#A-", 8, 0, 8, 3, 3, 6);
        loads("C1.R31#AR21#AR01#A");
        loads("R02L1.R13#B-#B");
    }

    /** "looked at when that is LOADED whole": what is wrong inside of it goes ahead, what is behind doesn't. */
    private static void rowLooksWhenItIsWhole() {
        failsAnew("R11B1.-x", 8, 0, 8, 3, 1, 7);
        failsAnew("R11B1.--x", 8, 0, 3, 3);
        failsAnew("R11B", 8, 0, 8, 3, 1, 4);
        failsAnew("R11B1a1a1.--", 8, 0, 8, 3, 6, 7);
        failsAnew("R11B1.-#C", 8, 0, 8, 3, 2, 8);
        failsAnew("R11R11B1.--", 8, 0, 8, 3, 3, 6);
        failsAnew("R21R11L1.", 8, 0, 3, 3);
        failsAnew("R12B1.--B1.--", 8, 0, 3, 3);
        failsAnew("R12L1.B1.--", 8, 0, 3, 6);
        C.fails(leaves(28), "R11B1.L1.-", 8, 0, 8, 3, 4, 6);
        C.fails(leaves(28), "R11B1.--", 8, 0, 3, 3);
    }

    /** "4 a 31st OBJECT": with those that were there; a 30th is made. */
    private static void thirtyFirstObject() {
        C.fails(leaves(30), "L1.", 4, 0);
        C.fails(leaves(30), "R00", 4, 0);
        C.due("a 30th", C.load(leaves(29), "L1."), 29);
        C.fails(leaves(29), "B1.#AL1.", 8, 0, 4, 5);
        C.due("# is no other one", C.load(leaves(29), "B1.#A#A"), 29);
        C.due("nothing is none", C.load(leaves(30), "-"), NOT);
        StringBuilder signs = new StringBuilder("R06");
        for (int i = 0; i < 4; i++) {
            signs.append("R06L1.L1.L1.L1.L1.L1.");
        }
        loads(signs + "L1.-");
        failsAnew(signs + "L1.L1.", 8, 0, 4, signs.length() + 3);
        failsAnew(signs + "R01L1.-", 8, 0, 8, signs.length(), 4, signs.length() + 3);
    }

    /** "of 4, 5 its letter": that object's own digits and fields aren't looked at any more. */
    private static void thirtyFirstAtItsLetter() {
        C.fails(leaves(30), "L", 4, 0);
        C.fails(leaves(30), "Rx", 4, 0);
        C.fails(leaves(30), "L1a1a1.", 4, 0);
        C.fails(leaves(29), "R01L9.", 8, 0, 4, 3);
        C.fails(leaves(30), "x", 1, 0);
        C.fails(leaves(29), "B1.x", 8, 0, 1, 3);
        C.fails(leaves(29), "R1x", 8, 0, 1, 2);
    }

    private static int[] chain(int open, int why, int place) {
        int[] causes = new int[2 * open + 2];
        for (int i = 0; i < open; i++) {
            causes[2 * i] = 8;
            causes[2 * i + 1] = 3 * i;
        }
        causes[2 * open] = why;
        causes[2 * open + 1] = place;
        return causes;
    }

    /** "5 a 13th OBJECT inside of each other": each letter; nothing, # and those side by side are none. */
    private static void thirteenthInside() {
        String twelve = "R01".repeat(12);
        loads(twelve + "-");
        loads(twelve + "#A");
        loads("R01".repeat(11) + "L1.");
        loads("R01".repeat(11) + "C1.---");
        for (String part : new String[] {"L1.", "B1.--", "C1.---", "R00", "L", "Rx"}) {
            failsAnew(twelve + part, chain(12, 5, 36));
        }
        failsAnew(twelve + "x", chain(12, 1, 36));
        failsAnew(twelve + "#M", chain(12, 2, 37));
        failsAnew("R01".repeat(14) + "-", chain(12, 5, 36));
        failsAnew("R01".repeat(11) + "B1.-L1.", chain(12, 5, 37));
        loads("R01".repeat(9) + "R06R01R00R01-R01L1.L1.L1.R00");
        loads("R06" + "R01".repeat(11) + "-R01-----");
    }

    /** "(ahead of 4)": where both are so, 5 is told; where one object fewer is open, 4. */
    private static void thirteenthAheadOfThirtyFirst() {
        String twelve = "R01".repeat(12);
        C.fails(leaves(18), twelve + "L1.", chain(12, 5, 36));
        C.fails(leaves(17), twelve + "L1.", chain(12, 5, 36));
        C.fails(leaves(19), twelve + "L1.", chain(11, 4, 33));
        C.fails(leaves(19), "R01".repeat(11) + "L1.", chain(11, 4, 33));
        C.due("twelve fit", C.load(leaves(18), twelve + "-"), 18);
    }

    /** "6 a name twice": "of 6 the name"; the number ahead of it has been read. */
    private static void nameTwice() {
        for (char name = 'a'; name <= 'h'; name++) {
            failsAnew("L1" + name + "5" + name + "5.", 8, 0, 6, 4);
            failsAnew("L1" + name + "-10" + name, 8, 0, 6, 6);
        }
        failsAnew("L1a1b1c1d1e1a1.", 8, 0, 6, 12);
        failsAnew("L1a1b1c1d1e1e1.", 8, 0, 6, 12);
        failsAnew("L1a1aa", 8, 0, 6, 4);
        failsAnew("L1a-a", 8, 0, 1, 4);
        loads("B1a1.C1a1.L1a1.---");
    }

    /** "6 .. a 7th FIELD"; a seventh that is no name at all is a wrong sign. */
    private static void seventhField() {
        failsAnew("L1a1b1c1d1e1f1g1.", 8, 0, 6, 14);
        failsAnew("L1a1b1c1d1e1f1g", 8, 0, 6, 14);
        failsAnew("L1a1b1c1d1e1f1a1.", 8, 0, 6, 14);
        failsAnew("L1a1b1c1d1e1f1gg", 8, 0, 6, 14);
        failsAnew("L1a1b1c1d1e1f1i1.", 8, 0, 1, 14);
        failsAnew("L1a1b1c1d1e1f1", 8, 0, 1, 14);
        loads("L1a1b1c1d1e1f1.");
        loads("C1h1g1f1e1d1c1.---");
        GraphSaver x = new GraphSaver();
        x.schema(1, 1, 'h', 1);
        C.due("six told, one by default", C.load(x, "L1a1b1c1d1e1f1."), 0);
        C.due("six", x.of(0, 1), 6);
    }

    /** "7 signs behind the whole": any sign, with its own place; all are whole, so none passes it on. */
    private static void signsBehindTheWhole() {
        for (int c = 0; c <= 255; c++) {
            failsAnew("-" + (char) c, 7, 1);
            failsAnew("B1.-L1." + (char) c, 7, 7);
        }
        failsAnew("L1.L1.L1.", 7, 3);
        failsAnew("R00-", 7, 3);
        failsAnew("R01#A#A", 7, 5);
        GraphSaver x = new GraphSaver();
        x.shelf(0, 200);
        x.put(0, 0, '-');
        C.due("signs of 0 behind it", x.load(0), STATE);
        C.causesAre(x, "signs of 0 behind it", 7, 1);
        C.fails(leaves(30), "-L1.", 7, 1);
    }

    /** "(also if it came in that one's own digits, FIELDS": each adds why 8 with the place of its letter. */
    private static void passedOnFromDigitsAndFields() {
        failsAnew("B1.L4.-", 8, 0, 8, 3, 1, 4);
        failsAnew("B1.L1x", 8, 0, 8, 3, 1, 5);
        failsAnew("B1.L1a-x", 8, 0, 8, 3, 1, 7);
        failsAnew("B1.L1a1a", 8, 0, 8, 3, 6, 7);
        failsAnew("B1.R4", 8, 0, 8, 3, 1, 4);
        failsAnew("B1.R07", 8, 0, 8, 3, 1, 5);
        failsAnew("B4", 8, 0, 1, 1);
        failsAnew("C1z", 8, 0, 1, 2);
    }

    /** "each OBJECT whose letter was taken and that isn't whole yet .. the inner first": whole ones add none. */
    private static void passedOnInnerFirst() {
        failsAnew("C1.L1.R02B1.--B1.-x", 8, 0, 8, 6, 8, 14, 1, 18);
        failsAnew("B1.B1.--x", 8, 0, 1, 8);
        failsAnew("R06L1.L1.L1.L1.L1.x", 8, 0, 1, 18);
        failsAnew("B1.B1.B1.B1.x", 8, 0, 8, 3, 8, 6, 8, 9, 1, 12);
        failsAnew("B1.B1.B1.B1.--x", 8, 0, 8, 3, 8, 6, 1, 14);
        failsAnew("R01R11R00", 8, 0, 8, 3, 3, 6);
    }

    /** "All that was made is no more then." What was there stays as it was. */
    private static void madeOnesAreNoMore() {
        GraphSaver x = leaves(3);
        x.hold(0, 0);
        x.hold(1, 2);
        x.write(2, 'a', 5);
        x.sweep();
        C.fails(x, "C1a1.L1.B1.#A#BR01-x", 7, 19);
        C.due("two", x.count(0), 2);
        C.due("fields", x.count(4), 1);
        C.due("refs", x.count(5), 0);
        C.due("1 is none", x.of(1, 0), BAD);
        C.due("3 is none", x.of(3, 0), BAD);
        C.due("a field stays", x.read(2, 'a'), 5);
        C.due("handles stay", x.count(7), 2);
        C.due("the least number", x.object(2), 1);
        C.streams(x, 1, "B1.--");
        C.fails(x, "R02L1.R01Lx", 8, 0, 8, 6, 8, 9, 1, 10);
        C.due("three", x.count(0), 3);
        C.holds(x, 3, "R02L1.R01Lx");
    }

    /** "THE FAIL stays till another load() FAILS": then it is another one, no more of the first. */
    private static void failStays() {
        GraphSaver x = new GraphSaver();
        C.fails(x, "R01R01R01x", 8, 0, 8, 3, 8, 6, 1, 9);
        C.due("one that doesn't fail", C.load(x, "L1."), 0);
        C.due("nothing", C.load(x, "-"), NOT);
        C.due("no shelf", x.load(4), BAD);
        C.due("nothing there", x.load(0), -11);
        x.image();
        x.sweep();
        x.back();
        x.shelf(3, -1);
        C.causesAre(x, "it stays", 8, 0, 8, 3, 8, 6, 1, 9);
        C.fails(x, "--", 7, 1);
        C.fails(x, "R01R01x", 8, 0, 8, 3, 1, 6);
        C.fails(x, "", 1, 0);
    }

    /** "BAD; NOT: there are not as many"; "why (what 0), place (1)". */
    private static void causeNumbers() {
        GraphSaver x = new GraphSaver();
        for (int round = 0; round < 2; round++) {
            for (int i : new int[] {LEAST, -2, -1}) {
                C.due("cause " + i, x.cause(i, 0), BAD);
                C.due("cause " + i, x.cause(i, 1), BAD);
            }
            for (int what : new int[] {LEAST, -1, 2, 3, MOST}) {
                C.due("what " + what, x.cause(0, what), BAD);
                C.due("what " + what + " of none", x.cause(100, what), BAD);
            }
            for (int i : new int[] {13, 14, 30, 200, MOST}) {
                C.due("not as many", x.cause(i, 0), NOT);
                C.due("not as many", x.cause(i, 1), NOT);
            }
            C.due("the first", x.cause(0, 0), round == 0 ? NOT : 8);
            C.due("the 13th", x.cause(12, 1), round == 0 ? NOT : 36);
            C.fails(x, "R01".repeat(12) + "x", chain(12, 1, 36));
        }
    }
}
