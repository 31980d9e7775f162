import java.util.ArrayList;
import java.util.List;

/**
 * 'Answers' in the document's Terms 3: every call with every mix of arguments at, beside and far from
 * their bounds, in several states. No call throws; what is answered is what the model answers; and
 * "What is answered so changes nothing (but THE FAIL)".
 */
public final class EdgeAnswersTest {
    private static final int LEAST = Integer.MIN_VALUE, MOST = Integer.MAX_VALUE;
    private static final int[] KINDS = {LEAST, -1, 0, 1, 2, 3, 4, MOST};
    private static final int[] VERSIONS = {LEAST, 0, 1, 2, 3, 4, MOST};
    private static final int[] NAMES = {LEAST, 0, 96, 97, 98, 99, 103, 104, 105, MOST};
    private static final int[] NUMBERS = {LEAST, -2000000000, -100, -99, -1, 0, 99, 100, MOST};
    private static final int[] OBJECTS = {LEAST, -2, -1, 0, 1, 2, 3, 4, 5, 9, 29, 30, MOST};
    private static final int[] PLACES = {LEAST, -2, -1, 0, 1, 2, 3, 5, 6, 7, MOST};
    private static final int[] SHELVES = {LEAST, -1, 0, 1, 2, 3, 4, MOST};
    private static final int[] SIZES = {LEAST, -2, -1, 0, 1, 199, 200, 201, MOST};
    private static final int[] SIGNS = {LEAST, -1, 0, 45, 255, 256, MOST};
    private static final int[] HANDLES = {LEAST, -1, 0, 1, 5, 7, 8, MOST};
    private static final int[] WHATS = {LEAST, -1, 0, 1, 2, 3, 4, 5, 8, 9, MOST};

    /** Calls that only tell: whatever they answer, nothing changes. */
    private static final String TELLERS = " byDefault read ref of name sign cause judge told reaches alike stream held"
        + " tells count ";
    private static final Check C = new Check();

    private final String calls;
    private final String before;

    private EdgeAnswersTest(String calls) {
        this.calls = calls;
        before = Seen.all(Seen.run(new GraphSaver(), calls));
        C.isTrue("class and model begin alike", before.equals(Seen.all(Seen.run(new Model(), calls))));
    }

    public static void main(String[] args) {
        String[] states = {"", Seen.ORDINARY, full(), tooLong()};
        for (String state : states) {
            new EdgeAnswersTest(state).everyCall();
        }
        C.end();
    }

    /** Thirty objects, a leaf of six fields among them, four names, a shelf of 200 signs, all handles. */
    private static String full() {
        StringBuilder state = new StringBuilder("object 1, object 3, row 0 6, row 3 0");
        state.append(", object 2".repeat(26));
        for (int name = 97; name <= 102; name++) {
            state.append(", write 0 ").append(name).append(" -99, schema 1 1 ").append(name).append(" 1");
        }
        for (int handle = 0; handle < 8; handle++) {
            state.append(", hold ").append(handle).append(' ').append(handle);
        }
        state.append(", graft 2 0 0, graft 2 5 2, graft 1 2 29, image, shelf 0 200, save 1 2, save 2 0, save 3 -1");
        return state.append(", load 0, graft 4 0 5, graft 5 1 4").toString();
    }

    /** Object 0 has more than 200 signs, 27 levels deep, and three numbers are free. */
    private static String tooLong() {
        StringBuilder state = new StringBuilder("schema 2 1 97 -11, schema 2 1 98 12");
        state.append(", object 2".repeat(27));
        for (int i = 0; i < 26; i++) {
            state.append(", graft ").append(i).append(" 1 ").append(i + 1);
        }
        return state.append(", hold 0 0, row 2 2, graft 27 0 25, save 1 25, save 2 27").toString();
    }

    private void everyCall() {
        mix("schema", KINDS, VERSIONS, new int[] {LEAST, 96, 97, 103, 104, 105, MOST}, new int[] {-100, -99, 99, 100});
        mix("version", KINDS, VERSIONS);
        mix("byDefault", KINDS, VERSIONS, NAMES);
        mix("object", KINDS);
        mix("row", KINDS, PLACES);
        mix("write", OBJECTS, NAMES, NUMBERS);
        mix("read", OBJECTS, NAMES);
        mix("forget", OBJECTS, NAMES);
        mix("graft", OBJECTS, PLACES, OBJECTS);
        mix("ref", OBJECTS, PLACES);
        mix("of", OBJECTS, WHATS);
        mix("name", OBJECTS, PLACES);
        mix("copy", OBJECTS);
        mix("graph", OBJECTS);
        mix("sweep");
        mix("shelf", SHELVES, SIZES);
        mix("put", SHELVES, SIZES, SIGNS);
        mix("sign", SHELVES, SIZES);
        mix("save", SHELVES, OBJECTS);
        mix("load", SHELVES);
        mix("cause", PLACES, WHATS);
        mix("judge", SHELVES, OBJECTS);
        mix("told", OBJECTS, WHATS);
        mix("reaches", OBJECTS, OBJECTS);
        mix("alike", OBJECTS, OBJECTS);
        mix("stream", OBJECTS, SIZES);
        mix("image");
        mix("back");
        mix("hold", HANDLES, OBJECTS);
        mix("held", HANDLES);
        mix("tells", HANDLES, WHATS);
        mix("count", WHATS);
    }

    private void mix(String name, int[]... choices) {
        List<int[]> all = new ArrayList<>();
        all.add(new int[choices.length]);
        for (int place = 0; place < choices.length; place++) {
            List<int[]> more = new ArrayList<>();
            for (int[] args : all) {
                for (int choice : choices[place]) {
                    int[] next = args.clone();
                    next[place] = choice;
                    more.add(next);
                }
            }
            all = more;
        }
        for (int[] args : all) {
            one(name, args);
        }
    }

    private void one(String name, int[] args) {
        GraphSaver x = Seen.run(new GraphSaver(), calls);
        Model m = Seen.run(new Model(), calls);
        int got = Seen.call(x, name, args);
        int due = Seen.call(m, name, args);
        String told = name + java.util.Arrays.toString(args);
        C.due(told, got, due);
        C.isTrue(told + " doesn't throw", got != Seen.THREW);
        String after = isRefused(name, got) ? before : Seen.all(m);
        C.isTrue(told + " changes what it should, and nothing else", Seen.all(x).equals(after));
    }

    /** write() and graft() answer what was there, which may be -1 or NOT; a load that fails leaves THE FAIL. */
    private static boolean isRefused(String name, int got) {
        if (TELLERS.contains(" " + name + " ") || got == GraphSaver.VOID) {
            return true;
        }
        boolean answersWhatWas = name.equals("write") || (name.equals("graft") && got == GraphSaver.NOT);
        return got < 0 && !answersWhatWas && !(name.equals("load") && got == GraphSaver.STATE);
    }
}
