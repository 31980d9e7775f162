import java.util.ArrayList;
import java.util.List;

/**
 * LOADED and FAILS of the document as a machine without recursion: it takes one sign after the other,
 * and keeps the objects that are open in a list, the outermost first. No schema has a name.
 */
final class Machine {
    /** What is looked for now. */
    private enum Due { PART, VERSION, NAME, NUMBER, DIGIT_BELOW_0, SECOND_DIGIT, K, LENGTH, ID, NO_MORE }

    private static final class Open {
        final char sort;
        final int letterAt;
        int k;
        int refsToCome;

        Open(char sort, int letterAt) {
            this.sort = sort;
            this.letterAt = letterAt;
        }
    }

    /** From the outermost on, pairs of why and place; empty if the stream is loaded. */
    final List<int[]> causes = new ArrayList<>();
    /** The letters of those that were made, by their IDs. */
    final StringBuilder sorts = new StringBuilder();
    /** What the whole would be saved as. */
    final StringBuilder saved = new StringBuilder();

    private final String signs;
    private final int there;
    private final List<Open> open = new ArrayList<>();
    private Due due = Due.PART;
    private String names = "";
    private int at;

    Machine(String signs, int there) {
        this.signs = signs;
        this.there = there;
    }

    void run() {
        for (; at < signs.length() && causes.isEmpty(); at++) {
            char c = signs.charAt(at);
            saved.append(due == Due.VERSION ? '1' : c);
            take(c);
        }
        if (causes.isEmpty() && due != Due.NO_MORE) {
            failAt(signs.length(), 1);
        }
    }

    private void failAt(int place, int why) {
        for (Open one : open) {
            causes.add(new int[] {8, one.letterAt});
        }
        causes.add(new int[] {why, place});
    }

    private Open inner() {
        return open.get(open.size() - 1);
    }

    private void take(char c) {
        switch (due) {
            case PART -> takePart(c);
            case VERSION -> goOnIf("123".indexOf(c) >= 0, Due.NAME);
            case NAME -> takeName(c);
            case NUMBER -> goOnIf(c == '-' || Character.isDigit(c),
                c == '-' ? Due.DIGIT_BELOW_0 : c == '0' ? Due.NAME : Due.SECOND_DIGIT);
            case DIGIT_BELOW_0 -> goOnIf(Character.isDigit(c) && c != '0', Due.SECOND_DIGIT);
            case SECOND_DIGIT -> takeSecondDigit(c);
            case K -> {
                inner().k = c - '0';
                goOnIf("0123".indexOf(c) >= 0, Due.LENGTH);
            }
            case LENGTH -> {
                goOnIf("0123456".indexOf(c) >= 0, Due.PART);
                made(c - '0');
            }
            case ID -> takeId(c);
            default -> failAt(at, 7);
        }
    }

    private void goOnIf(boolean fits, Due next) {
        if (fits) {
            due = next;
        } else {
            failAt(at, 1);
        }
    }

    private void takePart(char c) {
        if (c == '-') {
            come('-', at);
        } else if (c == '#') {
            due = Due.ID;
        } else if ("LBCR".indexOf(c) < 0) {
            failAt(at, 1);
        } else if (open.size() == 12) {
            failAt(at, 5);
        } else if (there + sorts.length() == 30) {
            failAt(at, 4);
        } else {
            open.add(new Open(c, at));
            names = "";
            due = c == 'R' ? Due.K : Due.VERSION;
        }
    }

    private void takeName(char c) {
        if (c == '.') {
            made(inner().sort == 'L' ? 0 : inner().sort == 'B' ? 2 : 3);
        } else if (c < 'a' || c > 'h') {
            failAt(at, 1);
        } else if (names.length() == 6 || names.indexOf(c) >= 0) {
            failAt(at, 6);
        } else {
            names += c;
            due = Due.NUMBER;
        }
    }

    private void takeSecondDigit(char c) {
        if (Character.isDigit(c)) {
            due = Due.NAME;
        } else {
            takeName(c);
        }
    }

    private void takeId(char c) {
        if (c < 'A' || c > '^') {
            failAt(at, 1);
        } else if (c - 'A' >= sorts.length()) {
            failAt(at, 2);
        } else {
            come(sorts.charAt(c - 'A'), at - 1);
        }
    }

    private void made(int refs) {
        if (!causes.isEmpty()) {
            return;
        }
        sorts.append(inner().sort);
        inner().refsToCome = refs;
        due = Due.PART;
        closeTheWholeOnes();
    }

    /** A part has come, which began there: the letter of what it is, or - for nothing. */
    private void come(char sort, int began) {
        due = Due.PART;
        if (open.isEmpty()) {
            due = Due.NO_MORE;
        } else if (inner().sort == 'R' && !holds(inner().k, sort)) {
            failAt(began, 3);
        } else {
            inner().refsToCome--;
            closeTheWholeOnes();
        }
    }

    private void closeTheWholeOnes() {
        if (inner().refsToCome == 0) {
            Open whole = open.remove(open.size() - 1);
            come(whole.sort, whole.letterAt);
        }
    }

    private static boolean holds(int k, char sort) {
        return sort == '-' || k == 0 || (k == 1 && sort == 'L') || (k == 2 && sort == 'B') || (k > 1 && sort == 'C');
    }
}
