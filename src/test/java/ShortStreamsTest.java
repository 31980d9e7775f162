import java.util.List;

/**
 * All short streams of some signs, alone and behind some beginnings, loaded: what they make or why they
 * fail is what a Machine says, which takes one sign after the other.
 */
public final class ShortStreamsTest {
    private static final String SIGNS = "-#ABLR012a.";
    private static final String ELEVEN = "R01".repeat(11);
    private static final Check C = new Check();

    public static void main(String[] args) {
        allBehind("", 0, 5);
        allBehind("R02", 0, 4);
        allBehind("R22B1.", 0, 4);
        allBehind("C1.R11", 0, 4);
        allBehind("L1a", 0, 4);
        allBehind("L1b-2c3d4e5f67", 0, 4);
        allBehind("L1b-2c3d4e5f67h8", 0, 3);
        allBehind("", 29, 4);
        allBehind("B1.", 29, 4);
        allBehind("R02L1.", 28, 4);
        allBehind(ELEVEN, 0, 4);
        allBehind(ELEVEN, 18, 4);
        allBehind(ELEVEN, 19, 4);
        C.end();
    }

    /** All streams that begin so and have at most so many signs more, each loaded where some leaves are. */
    private static void allBehind(String begin, int leaves, int most) {
        int streams = 1;
        for (int length = 0; length <= most; length++) {
            for (int number = 0; number < streams; number++) {
                StringBuilder signs = new StringBuilder(begin);
                int rest = number;
                for (int i = 0; i < length; i++) {
                    signs.append(SIGNS.charAt(rest % SIGNS.length()));
                    rest /= SIGNS.length();
                }
                one(signs.toString(), leaves);
            }
            streams *= SIGNS.length();
        }
    }

    private static void one(String signs, int leaves) {
        GraphSaver x = new GraphSaver();
        for (int i = 0; i < leaves; i++) {
            x.object(1);
        }
        x.shelf(1, signs.length());
        for (int i = 0; i < signs.length(); i++) {
            x.put(1, i, signs.charAt(i));
        }
        Machine machine = new Machine(signs, leaves);
        machine.run();
        String label = signs + " beside " + leaves;
        if (machine.causes.isEmpty()) {
            int whole = machine.sorts.isEmpty() ? -1 : leaves;
            C.due("load of " + label, x.load(1), whole == -1 ? GraphSaver.NOT : whole);
            C.due("objects by " + label, x.count(0), leaves + machine.sorts.length());
            C.due("no fail by " + label, x.cause(0, 0), GraphSaver.NOT);
            isSavedAs(x, whole, machine.saved.toString());
        } else {
            C.due("load of " + label, x.load(1), GraphSaver.STATE);
            C.due("objects by " + label, x.count(0), leaves);
            failsBy(x, machine.causes, label);
        }
    }

    private static void isSavedAs(GraphSaver x, int whole, String due) {
        C.due("how many signs of " + due, x.save(0, whole), due.length());
        for (int i = 0; i < due.length(); i++) {
            C.due("sign " + i + " of " + due, x.sign(0, i), due.charAt(i));
        }
    }

    private static void failsBy(GraphSaver x, List<int[]> causes, String label) {
        for (int i = 0; i < causes.size(); i++) {
            C.due("why " + i + " of " + label, x.cause(i, 0), causes.get(i)[0]);
            C.due("place " + i + " of " + label, x.cause(i, 1), causes.get(i)[1]);
        }
        C.due("causes of " + label, x.cause(causes.size(), 0), GraphSaver.NOT);
    }
}
