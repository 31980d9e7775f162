/** Counts the answers that are not the due ones, and ends the program with 1 if there were any. */
final class Check {
    private int wrong;
    private int looked;

    void due(String call, int got, int want) {
        looked++;
        if (got != want) {
            wrong++;
            System.out.println(call + " answered " + got + ", due is " + want);
        }
    }

    void isTrue(String what, boolean holds) {
        due(what, holds ? 1 : 0, 1);
    }

    /** Lays a stream of these signs on a shelf. */
    void lay(GraphSaver x, int shelf, String signs) {
        due("shelf for " + signs, x.shelf(shelf, signs.length()), 1);
        for (int i = 0; i < signs.length(); i++) {
            due("put of " + signs, x.put(shelf, i, signs.charAt(i)), 0);
        }
    }

    void holds(GraphSaver x, int shelf, String signs) {
        due("length of " + signs, x.sign(shelf, -1), signs.length());
        for (int i = 0; i < signs.length(); i++) {
            due("sign " + i + " of " + signs, x.sign(shelf, i), signs.charAt(i));
        }
    }

    void streams(GraphSaver x, int object, String signs) {
        for (int i = 0; i < signs.length(); i++) {
            due("stream(" + object + ", " + i + ") of " + signs, x.stream(object, i), signs.charAt(i));
        }
        due("stream(" + object + ") behind " + signs, x.stream(object, signs.length()), GraphSaver.NOT);
    }

    /** Lays a stream of these signs on shelf 3 and loads it. */
    int load(GraphSaver x, String signs) {
        lay(x, 3, signs);
        return x.load(3);
    }

    /** Loads a stream that fails: its causes from the outermost on, as pairs of why and place. */
    void fails(GraphSaver x, String signs, int... causes) {
        lay(x, 3, signs);
        int before = x.count(0);
        due("load of " + signs, x.load(3), GraphSaver.STATE);
        due("objects after the failed load of " + signs, x.count(0), before);
        causesAre(x, signs, causes);
    }

    void causesAre(GraphSaver x, String signs, int... causes) {
        for (int i = 0; 2 * i < causes.length; i++) {
            due("why " + i + " of " + signs, x.cause(i, 0), causes[2 * i]);
            due("place " + i + " of " + signs, x.cause(i, 1), causes[2 * i + 1]);
        }
        due("causes behind the last of " + signs, x.cause(causes.length / 2, 0), GraphSaver.NOT);
        due("places behind the last of " + signs, x.cause(causes.length / 2, 1), GraphSaver.NOT);
    }

    void end() {
        System.out.println(looked + " answers looked at, " + wrong + " wrong");
        if (wrong != 0) {
            System.exit(1);
        }
    }
}
