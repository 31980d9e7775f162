/** Promises 24 to 27: what is told in thought, changing nothing. */
public final class ThoughtTest {
    private static final int BAD = GraphSaver.BAD, NOT = GraphSaver.NOT;
    private static final Check C = new Check();

    public static void main(String[] args) {
        promise24ReachAndShared();
        promise24Round();
        promise24Deep();
        promise24Longest();
        promise25Reaches();
        promise26Alike();
        promise26AlikeBothWays();
        promise26AlikeOneInTheOther();
        promise27Stream();
        C.end();
    }

    private static GraphSaver boxes(int n) {
        GraphSaver x = new GraphSaver();
        for (int i = 0; i < n; i++) {
            x.object(2);
        }
        return x;
    }

    private static void promise24ReachAndShared() {
        GraphSaver x = boxes(5);
        x.graft(0, 0, 1);
        x.graft(0, 1, 1);
        x.graft(1, 0, 2);
        x.graft(3, 0, 2);
        x.graft(4, 0, 4);
        C.due("reach", x.told(0, 0), 3);
        C.due("one by two refs of one object", x.told(0, 1), 1);
        C.due("a ref from outside does not count", x.told(1, 1), 0);
        C.due("alone", x.told(2, 0), 1);
        C.due("itself once", x.told(4, 1), 0);
        x.graft(4, 1, 4);
        C.due("itself twice", x.told(4, 1), 1);
        C.due("signs", x.told(0, 4), "B1.B1.B1.---#B".length());
        C.due("what 5", x.told(0, 5), BAD);
        C.due("what -1", x.told(0, -1), BAD);
        C.due("no object", x.told(5, 0), BAD);
        C.due("object -1", x.told(-1, 4), BAD);
    }

    private static void promise24Round() {
        GraphSaver x = boxes(4);
        x.graft(0, 0, 1);
        x.graft(1, 0, 2);
        x.graft(0, 1, 2);
        C.due("not round", x.told(0, 2), 0);
        x.graft(3, 0, 3);
        C.due("round elsewhere", x.told(0, 2), 0);
        C.due("itself", x.told(3, 2), 1);
        x.graft(2, 0, 1);
        C.due("round further in", x.told(0, 2), 1);
        C.due("so not deep", x.told(0, 3), NOT);
        C.due("reach", x.told(0, 0), 3);
    }

    private static void promise24Deep() {
        GraphSaver x = boxes(5);
        C.due("alone", x.told(0, 3), 1);
        x.graft(0, 0, 3);
        C.due("two", x.told(0, 3), 2);
        x.graft(0, 1, 1);
        x.graft(1, 0, 2);
        x.graft(2, 1, 3);
        C.due("the longer way", x.told(0, 3), 4);
        x.graft(3, 1, 4);
        C.due("and one more", x.told(0, 3), 5);
    }

    /** The numbers go against the order in which they are met, and with it. */
    private static void promise24Longest() {
        for (int step = -1; step <= 1; step += 2) {
            GraphSaver x = new GraphSaver();
            for (int i = 0; i < 30; i++) {
                x.row(0, 2);
            }
            int first = step < 0 ? 29 : 0;
            for (int i = 0; i < 29; i++) {
                x.graft(first + step * i, 1, first + step * (i + 1));
                x.graft(first + step * i, 0, first + step * Math.min(29, i + 2));
            }
            C.due("deep", x.told(first, 3), 30);
            C.due("not round", x.told(first, 2), 0);
            C.due("shared", x.told(first, 1), 28);
            C.due("reach", x.told(first, 0), 30);
            x.graft(first + step * 29, 0, first);
            C.due("round", x.told(first, 2), 1);
            C.due("not deep", x.told(first, 3), NOT);
            C.due("no room", x.graph(first), GraphSaver.FULL);
        }
    }

    private static void promise25Reaches() {
        GraphSaver x = boxes(4);
        x.graft(0, 0, 1);
        x.graft(1, 1, 2);
        C.due("the first in the reach of the second", x.reaches(2, 0), 1);
        C.due("not the other way", x.reaches(0, 2), 0);
        C.due("itself", x.reaches(3, 3), 1);
        C.due("apart", x.reaches(3, 0), 0);
        C.due("no object", x.reaches(4, 0), BAD);
        C.due("no other", x.reaches(0, 4), BAD);
        C.due("object -1", x.reaches(-1, 0), BAD);
        C.due("other -1", x.reaches(0, -1), BAD);
    }

    private static void promise26Alike() {
        GraphSaver x = boxes(2);
        C.due("empty boxes", x.alike(0, 1), 1);
        C.due("itself", x.alike(0, 0), 1);
        C.due("no object", x.alike(0, 2), BAD);
        C.due("no object", x.alike(2, 0), BAD);
        x.write(0, 'a', 1);
        C.due("one field", x.alike(0, 1), 0);
        x.write(1, 'a', 2);
        C.due("other number", x.alike(0, 1), 0);
        x.write(1, 'a', 1);
        C.due("same", x.alike(0, 1), 1);
        x.write(0, 'b', 1);
        x.write(1, 'b', 1);
        x.forget(1, 'a');
        x.write(1, 'a', 1);
        C.due("other order", x.alike(0, 1), 0);
        C.due("crate", x.object(3), 2);
        C.due("box", x.object(2), 3);
        C.due("crate and box", x.alike(2, 3), 0);
        x.row(0, 2);
        x.row(0, 2);
        x.row(1, 2);
        x.row(0, 3);
        C.due("rows", x.alike(4, 5), 1);
        C.due("other k", x.alike(4, 6), 0);
        C.due("other length", x.alike(4, 7), 0);
        x.graft(4, 0, 3);
        C.due("something, nothing", x.alike(4, 5), 0);
        C.due("nothing, something", x.alike(5, 4), 0);
        x.graft(5, 0, 3);
        C.due("the same one in both", x.alike(4, 5), 1);
        x.graft(5, 0, 2);
        C.due("others in them", x.alike(4, 5), 0);
        x.graft(5, 0, -1);
        x.graft(5, 1, 3);
        C.due("other place", x.alike(4, 5), 0);
    }

    private static void promise26AlikeBothWays() {
        GraphSaver x = boxes(2);
        x.object(1);
        x.object(1);
        x.graft(0, 0, 2);
        x.graft(0, 1, 2);
        x.graft(1, 0, 2);
        x.graft(1, 1, 3);
        C.due("one for two", x.alike(0, 1), 0);
        C.due("two for one", x.alike(1, 0), 0);
        x.graft(0, 1, 3);
        x.graft(0, 0, 2);
        x.graft(1, 0, 3);
        x.graft(1, 1, 2);
        C.due("crosswise", x.alike(0, 1), 1);
    }

    private static void promise26AlikeOneInTheOther() {
        GraphSaver x = boxes(3);
        x.graft(0, 0, 1);
        x.graft(1, 0, 0);
        C.due("each leads to the other", x.alike(0, 1), 1);
        x.graft(2, 0, 2);
        C.due("a ring of two, of one", x.alike(0, 2), 0);
        C.due("a ring of one, of two", x.alike(2, 0), 0);
    }

    private static void promise27Stream() {
        GraphSaver x = boxes(1);
        x.graft(0, 1, 0);
        x.write(0, 'h', -5);
        C.streams(x, 0, "B1h-5.-#A");
        x.version(2, 3);
        C.streams(x, 0, "B3h-5.-#A");
        C.due("k -1", x.stream(0, -1), BAD);
        C.due("k far", x.stream(0, Integer.MAX_VALUE), NOT);
        C.due("no object", x.stream(1, 0), BAD);
        C.due("object -1", x.stream(-1, 0), BAD);
        C.due("nothing changed", x.count(8), 0);
    }
}
