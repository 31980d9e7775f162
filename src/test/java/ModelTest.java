/** Long runs of calls, the same at each start, answered by the class and by the model alike. */
public final class ModelTest {
    private static final int RUNS = 3000;
    private static final int CALLS = 512;
    private static final String SIGNS = "-#LBCRABCDE[\\]^0123456789abcdefgh..---";
    private static final Check C = new Check();

    private final GraphSaver x = new GraphSaver();
    private final Model m = new Model();
    private final int flavour;
    private final String label;
    private long seed;
    private int calls;

    private ModelTest(int run) {
        label = "run " + run;
        flavour = run % 4;
        seed = 1000003L * run + 17;
    }

    public static void main(String[] args) {
        for (int run = 0; run < RUNS; run++) {
            new ModelTest(run).go();
        }
        C.end();
    }

    /** A generator of our own, so that a run that once went wrong goes wrong again. */
    private int below(int n) {
        seed = seed * 6364136223846793005L + 1442695040888963407L;
        return (int) ((seed >>> 33) % n);
    }

    /** Mostly a number from least to most, at times one beyond, seldom one far away. */
    private int from(int least, int most) {
        int way = below(60);
        if (way == 0) {
            return least - 1;
        }
        if (way == 1) {
            return most + 1;
        }
        if (way == 2) {
            return below(2) == 0 ? Integer.MIN_VALUE : Integer.MAX_VALUE;
        }
        return least + below(most - least + 1);
    }

    /** Mostly an object that there is. */
    private int thing() {
        if (m.things.isEmpty() || below(20) == 0) {
            return from(0, 29);
        }
        return (int) m.things.keySet().toArray()[below(m.things.size())];
    }

    private int thingOrNothing() {
        return below(5) == 0 ? -1 : thing();
    }

    private void same(String call, int got, int want) {
        calls++;
        C.due(got == want ? call : label + ", call " + calls + ": " + call, got, want);
    }

    private void go() {
        while (calls < CALLS) {
            int way = below(flavour == 3 ? 36 : 31);
            if (way < 12) {
                change(way);
            } else if (way < 20) {
                ask(way);
            } else if (way < 26) {
                streams(way);
            } else if (way < 31) {
                build();
            } else if (way < 34) {
                spoil();
            } else {
                invent();
            }
        }
        C.due(label + " ends with as many objects", x.count(0), m.count(0));
    }

    private void change(int way) {
        int a = thing();
        int b = from(0, 5);
        int c = thingOrNothing();
        int name = from('a', 'h');
        int v = from(-99, 99);
        int kind = from(1, 3);
        int version = from(1, 3);
        switch (way) {
            case 0:
                same("schema", x.schema(kind, version, name, v), m.schema(kind, version, name, v));
                break;
            case 1:
                same("version", x.version(kind, version), m.version(kind, version));
                break;
            case 2:
                same("byDefault", x.byDefault(kind, version, name), m.byDefault(kind, version, name));
                break;
            case 3:
            case 4:
                same("write", x.write(a, name, v), m.write(a, name, v));
                break;
            case 5:
                same("forget", x.forget(a, name), m.forget(a, name));
                break;
            case 6:
                same("copy", x.copy(a), m.copy(a));
                break;
            case 7:
                same("graph", x.graph(a), m.graph(a));
                break;
            case 8:
                sweepAtTimes();
                break;
            case 9:
                same("hold", x.hold(b, c), m.hold(b, c));
                break;
            case 10:
                sparseImages();
                break;
            default:
                same("graft", x.graft(a, b, c), m.graft(a, b, c));
                break;
        }
    }

    private void sweepAtTimes() {
        if (below(4) == 0 || m.things.size() > 26) {
            same("sweep", x.sweep(), m.sweep());
        }
    }

    private void sparseImages() {
        if (below(5) == 0) {
            same("image", x.image(), m.image());
        }
        if (below(8) == 0) {
            same("back", x.back(), m.back());
        }
    }

    private void ask(int way) {
        int a = thing();
        int b = thing();
        int i = from(0, 5);
        int name = from('a', 'h');
        int what = from(0, 8);
        switch (way) {
            case 12:
                same("read", x.read(a, name), m.read(a, name));
                same("ref", x.ref(a, i), m.ref(a, i));
                break;
            case 13:
                same("of", x.of(a, i), m.of(a, i));
                same("name", x.name(a, i), m.name(a, i));
                break;
            case 14:
                same("reaches", x.reaches(a, b), m.reaches(a, b));
                break;
            case 15:
                same("alike", x.alike(a, b), m.alike(a, b));
                break;
            case 16:
                same("told", x.told(a, i), m.told(a, i));
                break;
            case 17:
                same("count", x.count(what), m.count(what));
                break;
            case 18:
                same("held", x.held(what), m.held(what));
                break;
            default:
                same("tells", x.tells(what, i), m.tells(what, i));
                break;
        }
    }

    private void streams(int way) {
        int shelf = from(0, 3);
        int a = thingOrNothing();
        switch (way) {
            case 20:
                same("save", x.save(shelf, a), m.save(shelf, a));
                break;
            case 21:
                loadAndAsk(shelf);
                break;
            case 22:
                same("judge", x.judge(shelf, a), m.judge(shelf, a));
                break;
            case 23:
                int k = from(0, below(2) == 0 ? 10 : 200);
                same("stream", x.stream(a, k), m.stream(a, k));
                break;
            case 24:
                int i = from(-1, 30);
                same("sign", x.sign(shelf, i), m.sign(shelf, i));
                break;
            default:
                resizeOrPut(shelf);
                break;
        }
    }

    private void resizeOrPut(int shelf) {
        int n = below(3) == 0 ? from(-1, 200) : from(-1, 9);
        if (below(8) == 0) {
            same("shelf", x.shelf(shelf, n), m.shelf(shelf, n));
        } else {
            putOne(shelf, from(0, 20));
        }
    }

    private void putOne(int shelf, int i) {
        int c = below(20) == 0 ? from(0, 255) : SIGNS.charAt(below(SIGNS.length()));
        same("put", x.put(shelf, i, c), m.put(shelf, i, c));
    }

    private void loadAndAsk(int shelf) {
        String signs = m.shelves.get(shelf);
        same("load of " + signs, x.load(shelf), m.load(shelf));
        int i = from(0, 3);
        same("cause, load of " + signs, x.cause(i, 0), m.cause(i, 0));
        int last = m.fail.size() - 1;
        same("cause, load of " + signs, x.cause(last, 0), m.cause(last, 0));
        same("cause, load of " + signs, x.cause(last, 1), m.cause(last, 1));
        int what = from(0, 1);
        same("cause, load of " + signs, x.cause(i, what), m.cause(i, what));
    }

    /** New objects, more of them in some runs, each grafted somewhere at once. */
    private void build() {
        int k = flavour == 0 ? from(1, 3) : from(0, 3);
        int n = from(0, 6);
        int number = m.things.size();
        if (below(2) == 0) {
            same("row", x.row(k, n), m.row(k, n));
        } else {
            same("object", x.object(k), m.object(k));
        }
        if (m.things.size() > number && flavour != 1) {
            int a = thing();
            int i = from(0, 2);
            int to = thing();
            same("graft", x.graft(a, i, to), m.graft(a, i, to));
        }
    }

    /** A saved stream with one sign made otherwise, then loaded. */
    private void spoil() {
        int shelf = below(4);
        int a = thing();
        same("save", x.save(shelf, a), m.save(shelf, a));
        String signs = m.shelves.get(shelf);
        if (signs != null && !signs.isEmpty() && below(4) != 0) {
            putOne(shelf, below(signs.length()));
        }
        loadAndAsk(shelf);
    }

    /** A stream that is mostly as streams are, with most of the ways in which one fails. */
    private void invent() {
        int shelf = below(4);
        StringBuilder signs = new StringBuilder();
        inventPart(signs, 0, below(3) == 0 ? 1 : 3);
        int length = Math.min(200, signs.length());
        same("shelf", x.shelf(shelf, length), m.shelf(shelf, length));
        for (int i = 0; i < length; i++) {
            same("put", x.put(shelf, i, signs.charAt(i)), m.put(shelf, i, signs.charAt(i)));
        }
        same("sweep", x.sweep(), m.sweep());
        loadAndAsk(shelf);
    }

    /** Slim ones (spread 1) go deeper. */
    private void inventPart(StringBuilder signs, int depth, int spread) {
        int way = below(10);
        if (signs.length() > 150 || depth > 14 || (way < 2 && depth > 0)) {
            signs.append('-');
        } else if (way == 2 && depth > 0) {
            signs.append('#').append((char) ('A' + below(depth + 2)));
        } else if (way < 7 || spread == 1) {
            int length = spread == 1 ? 1 : below(4);
            signs.append('R').append(below(4) == 0 ? 2 : 0).append(length);
            inventParts(signs, depth, spread, length);
        } else {
            int kind = 1 + below(3);
            signs.append(" LBC".charAt(kind)).append(1 + below(3));
            for (int i = below(4) == 0 ? below(8) : below(2); i > 0; i--) {
                signs.append((char) ('a' + (below(3) == 0 ? below(8) : i))).append(below(25) * 9 - 99);
            }
            signs.append('.');
            inventParts(signs, depth, spread, kind == 1 ? 0 : kind);
        }
    }

    private void inventParts(StringBuilder signs, int depth, int spread, int howMany) {
        for (int i = 0; i < howMany; i++) {
            inventPart(signs, depth + 1, spread);
        }
    }
}
