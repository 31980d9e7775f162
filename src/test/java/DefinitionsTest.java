import java.util.ArrayList;
import java.util.Arrays;
import java.util.List;
import java.util.Set;
import java.util.TreeSet;

/**
 * All graphs of three objects with two references each: what is told, reached, alike, copied and swept
 * is what the sentences of 'Terms' 2 say, taken word by word (no walk in the order of SAVED, no
 * binding, no depths that are kept).
 */
public final class DefinitionsTest {
    private static final int NOT = GraphSaver.NOT;
    private static final int SIZE = 3;
    private static final Check C = new Check();

    /** Three boxes; rows for any; a row, a box and a crate; boxes of which one has a field. */
    private static final String[] SORTS = {"BBB", "RRR", "RBC", "BbB"};

    private final String sorts;
    private final int[][] refs = new int[SIZE][2];
    private final GraphSaver x = new GraphSaver();
    private final String label;

    private DefinitionsTest(String sorts, int number) {
        this.sorts = sorts;
        int rest = number;
        for (int object = 0; object < SIZE; object++) {
            make(sorts.charAt(object), object);
            for (int i = 0; i < 2; i++) {
                refs[object][i] = rest % 4 - 1;
                rest /= 4;
            }
        }
        label = sorts + " by " + Arrays.deepToString(refs) + ": ";
        for (int object = 0; object < SIZE; object++) {
            for (int i = 0; i < 2; i++) {
                due("graft", x.graft(object, i, refs[object][i]), NOT);
            }
        }
    }

    public static void main(String[] args) {
        for (String sorts : SORTS) {
            for (int number = 0; number < 4096; number++) {
                DefinitionsTest test = new DefinitionsTest(sorts, number);
                test.told();
                test.pairs();
                test.graphed(number % SIZE);
                test.loadedAgain(number % SIZE);
                test.swept(number % SIZE);
            }
        }
        C.end();
    }

    private void make(char sort, int number) {
        int made = sort == 'R' ? x.row(0, 2) : x.object(sort == 'C' ? 3 : 2);
        C.due("made", made, number);
        if (sort == 'b') {
            x.write(made, 'c', -10);
        }
    }

    private void due(String call, int got, int want) {
        C.due(got == want ? call : label + call, got, want);
    }

    private Set<Integer> reach(int object) {
        Set<Integer> reach = new TreeSet<>(List.of(object));
        for (int step = 0; step < SIZE; step++) {
            for (int one : List.copyOf(reach)) {
                for (int ref : refs[one]) {
                    if (ref >= 0) {
                        reach.add(ref);
                    }
                }
            }
        }
        return reach;
    }

    /** "those in it that two or more REFS in it (of OBJECTS in it) are for". */
    private int shared(int object) {
        int shared = 0;
        for (int one : reach(object)) {
            int refsFor = 0;
            for (int from : reach(object)) {
                refsFor += (refs[from][0] == one ? 1 : 0) + (refs[from][1] == one ? 1 : 0);
            }
            shared += refsFor >= 2 ? 1 : 0;
        }
        return shared;
    }

    /** "whether an OBJECT in it is in the REACH of one of its own REFS". */
    private boolean isRound(int object) {
        for (int one : reach(object)) {
            for (int ref : refs[one]) {
                if (ref >= 0 && reach(ref).contains(one)) {
                    return true;
                }
            }
        }
        return false;
    }

    /** "the most OBJECTS one behind the other by REFS, itself the first", where it doesn't go round. */
    private int deep(int object) {
        int deepest = 0;
        for (int ref : refs[object]) {
            deepest = Math.max(deepest, ref >= 0 ? deep(ref) : 0);
        }
        return deepest + 1;
    }

    private void told() {
        for (int object = 0; object < SIZE; object++) {
            boolean round = isRound(object);
            due("reach of " + object, x.told(object, 0), reach(object).size());
            due("shared of " + object, x.told(object, 1), shared(object));
            due("round of " + object, x.told(object, 2), round ? 1 : 0);
            due("deep of " + object, x.told(object, 3), round ? NOT : deep(object));
        }
    }

    private void pairs() {
        for (int one = 0; one < SIZE; one++) {
            for (int other = 0; other < SIZE; other++) {
                due(one + " in the reach of " + other, x.reaches(one, other), reach(other).contains(one) ? 1 : 0);
                due(one + " and " + other + " alike", x.alike(one, other), areAlike(one, other) ? 1 : 0);
            }
        }
    }

    /** All pairs that are come to by going through both at once, and then what the sentence asks of them. */
    private boolean areAlike(int one, int other) {
        List<int[]> met = new ArrayList<>();
        met.add(new int[] {one, other});
        for (int at = 0; at < met.size(); at++) {
            int[] pair = met.get(at);
            if (sorts.charAt(pair[0]) != sorts.charAt(pair[1])) {
                return false;
            }
            for (int i = 0; i < 2; i++) {
                int ref = refs[pair[0]][i];
                int otherRef = refs[pair[1]][i];
                if ((ref < 0) != (otherRef < 0)) {
                    return false;
                }
                if (ref >= 0 && met.stream().noneMatch(p -> p[0] == ref && p[1] == otherRef)) {
                    met.add(new int[] {ref, otherRef});
                }
            }
        }
        long ones = met.stream().mapToInt(p -> p[0]).distinct().count();
        long others = met.stream().mapToInt(p -> p[1]).distinct().count();
        return ones == met.size() && others == met.size();
    }

    /** "as new ones ALIKE to them (numbers as they are met, as by SAVED)"; the old ones stay as they were. */
    private void graphed(int object) {
        int reached = reach(object).size();
        due("graph of " + object, x.graph(object), SIZE);
        due("so many more", x.count(0), SIZE + reached);
        due("alike", x.alike(object, SIZE), 1);
        due("none of the old ones in it", x.told(SIZE, 0), reached);
        int next = SIZE + 1;
        for (int copy = SIZE; copy < SIZE + reached; copy++) {
            due("no old one leads to it", x.reaches(copy, object), 0);
            due("it is in the copy's reach", x.reaches(copy, SIZE), 1);
        }
        for (int i = 0; i < 2; i++) {
            int old = refs[object][i];
            int ref = x.ref(SIZE, i);
            due("nothing where there was nothing", ref == NOT ? 1 : 0, old < 0 ? 1 : 0);
            if (old == object) {
                due("itself where it was itself", ref, SIZE);
            } else if (i == 0 && old >= 0) {
                due("the next number for the next one met", ref, next);
            }
            due("the old ref stays", x.ref(object, i), old < 0 ? NOT : old);
        }
    }

    /** What is SAVED is LOADED as one ALIKE to it; the third ref of a crate is nothing in both. */
    private void loadedAgain(int object) {
        int before = x.count(0);
        due("as many signs", x.save(2, object), x.told(object, 4));
        due("load", x.load(2), before);
        due("alike", x.alike(before, object), 1);
        due("as many more", x.count(0), before + reach(object).size());
        due("judged for the loaded one", x.judge(2, before), NOT);
    }

    /** "OBJECTS in no REACH of one that a HANDLE holds are no more." */
    private void swept(int object) {
        int before = x.count(0);
        due("hold", x.hold(5, object), 1);
        due("swept", x.sweep(), before - reach(object).size());
        for (int one = 0; one < SIZE; one++) {
            boolean stays = reach(object).contains(one);
            due(one + " is there", x.of(one, 2) >= 0 ? 1 : 0, stays ? 1 : 0);
            due("its ref", stays ? x.ref(one, 0) : NOT, stays && refs[one][0] >= 0 ? refs[one][0] : NOT);
        }
    }
}
