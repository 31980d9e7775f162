import java.util.ArrayList;
import java.util.HashMap;
import java.util.LinkedHashMap;
import java.util.LinkedHashSet;
import java.util.List;
import java.util.Map;
import java.util.Set;
import java.util.TreeMap;

/**
 * The document written down a second time, by other means than the class's: texts for streams, maps
 * for fields, an exception for a load that fails. Only what is told about several objects is here;
 * ModelTest compares both over long runs of calls.
 */
final class Model {
    static final class Thing {
        int kind;
        int k = -2;
        Map<Character, Integer> fields = new LinkedHashMap<>();
        List<Integer> refs = new ArrayList<>();

        Thing(int kind, int k, int refCount) {
            this.kind = kind;
            this.k = k;
            for (int i = 0; i < refCount; i++) {
                refs.add(-1);
            }
        }

        Thing(Thing other) {
            kind = other.kind;
            k = other.k;
            fields.putAll(other.fields);
            refs.addAll(other.refs);
        }
    }

    static final class Failed extends Exception {
        private static final long serialVersionUID = 1;
        final transient List<int[]> causes = new ArrayList<>();

        Failed(int why, int place) {
            causes.add(new int[] {why, place});
        }
    }

    TreeMap<Integer, Thing> things = new TreeMap<>();
    Map<String, Map<Character, Integer>> schemas = new HashMap<>();
    int[] versions = {0, 1, 1, 1};
    final Map<Integer, Integer> handles = new TreeMap<>();
    final Map<Integer, String> shelves = new TreeMap<>();
    List<int[]> fail = new ArrayList<>();
    private TreeMap<Integer, Thing> keptThings;
    private Map<String, Map<Character, Integer>> keptSchemas;
    private int[] keptVersions;

    private static boolean within(int x, int least, int most) {
        return x >= least && x <= most;
    }

    private Map<Character, Integer> names(int kind, int version) {
        return schemas.computeIfAbsent(kind + "/" + version, key -> new LinkedHashMap<>());
    }

    private int least() {
        int number = 0;
        while (things.containsKey(number)) {
            number++;
        }
        return number;
    }

    int schema(int kind, int version, int name, int v) {
        if (!within(kind, 1, 3) || !within(version, 1, 3) || !within(name, 97, 104) || !within(v, -99, 99)) {
            return -1;
        }
        Map<Character, Integer> names = names(kind, version);
        if (names.containsKey((char) name)) {
            return -5;
        }
        if (names.size() == 4) {
            return -3;
        }
        names.put((char) name, v);
        return names.size();
    }

    int version(int kind, int version) {
        if (!within(kind, 1, 3) || !within(version, 1, 3)) {
            return -1;
        }
        int was = versions[kind];
        versions[kind] = version;
        return was;
    }

    int byDefault(int kind, int version, int name) {
        if (!within(kind, 1, 3) || !within(version, 1, 3) || !within(name, 97, 104)) {
            return -2000000000;
        }
        return names(kind, version).getOrDefault((char) name, -2000000000);
    }

    int object(int kind) {
        if (!within(kind, 1, 3)) {
            return -1;
        }
        if (things.size() == 30) {
            return -3;
        }
        Thing thing = new Thing(kind, -2, new int[] {0, 0, 2, 3}[kind]);
        thing.fields.putAll(names(kind, versions[kind]));
        int number = least();
        things.put(number, thing);
        return number;
    }

    int row(int k, int n) {
        if (!within(k, 0, 3) || n > 6) {
            return -1;
        }
        if (n < 0) {
            return -14;
        }
        if (things.size() == 30) {
            return -3;
        }
        int number = least();
        things.put(number, new Thing(4, k, n));
        return number;
    }

    int write(int object, int name, int v) {
        Thing thing = things.get(object);
        if (thing == null || thing.kind == 4 || !within(name, 97, 104) || !within(v, -99, 99)) {
            return -2000000000;
        }
        if (!thing.fields.containsKey((char) name) && thing.fields.size() == 6) {
            return -2000000000;
        }
        Integer was = thing.fields.put((char) name, v);
        return was == null ? 0 : was;
    }

    int read(int object, int name) {
        Thing thing = things.get(object);
        if (thing == null || !within(name, 97, 104)) {
            return -2000000000;
        }
        return thing.fields.getOrDefault((char) name, -2000000000);
    }

    int forget(int object, int name) {
        Thing thing = things.get(object);
        if (thing == null || !within(name, 97, 104)) {
            return -1;
        }
        if (thing.kind == 4) {
            return -12;
        }
        return thing.fields.remove((char) name) == null ? -2 : thing.fields.size();
    }

    private static boolean holds(Thing row, Thing part) {
        if (row.kind != 4 || row.k == 0 || part == null) {
            return true;
        }
        return List.of("", "1", "23", "3").get(row.k).contains("" + part.kind);
    }

    int graft(int object, int i, int to) {
        Thing thing = things.get(object);
        if (thing == null || (to != -1 && !things.containsKey(to))) {
            return -1;
        }
        if (!within(i, 0, thing.refs.size() - 1)) {
            return -13;
        }
        if (!holds(thing, things.get(to))) {
            return -16;
        }
        int was = thing.refs.set(i, to);
        return was == -1 ? -2 : was;
    }

    int ref(int object, int i) {
        Thing thing = things.get(object);
        if (thing == null) {
            return -1;
        }
        if (!within(i, 0, thing.refs.size() - 1)) {
            return -13;
        }
        return thing.refs.get(i) == -1 ? -2 : thing.refs.get(i);
    }

    int of(int object, int what) {
        Thing thing = things.get(object);
        if (thing == null || !within(what, 0, 4)) {
            return -1;
        }
        int kept = 0;
        for (char name : thing.fields.keySet()) {
            kept += names(thing.kind, versions[thing.kind]).containsKey(name) ? 0 : 1;
        }
        return new int[] {thing.kind, thing.fields.size(), thing.refs.size(), kept, thing.k}[what];
    }

    int name(int object, int i) {
        Thing thing = things.get(object);
        if (thing == null || i < 0) {
            return -1;
        }
        if (thing.kind == 4) {
            return -12;
        }
        return i < thing.fields.size() ? new ArrayList<>(thing.fields.keySet()).get(i) : -2;
    }

    int copy(int object) {
        Thing thing = things.get(object);
        if (thing == null) {
            return -1;
        }
        if (thing.kind != 4) {
            return -12;
        }
        if (things.size() == 30) {
            return -3;
        }
        int number = least();
        things.put(number, new Thing(thing));
        return number;
    }

    int graph(int object) {
        if (!things.containsKey(object)) {
            return -1;
        }
        List<Integer> met = new ArrayList<>();
        signs(object, met);
        if (met.size() + things.size() > 30) {
            return -3;
        }
        Map<Integer, Integer> copies = new HashMap<>();
        copies.put(-1, -1);
        for (int old : met) {
            int number = least();
            copies.put(old, number);
            things.put(number, new Thing(things.get(old)));
        }
        for (int old : met) {
            things.get(copies.get(old)).refs.replaceAll(copies::get);
        }
        return copies.get(object);
    }

    int sweep() {
        Set<Integer> held = new LinkedHashSet<>();
        for (int object : handles.values()) {
            held.addAll(reach(object));
        }
        int before = things.size();
        things.keySet().retainAll(held);
        return before - things.size();
    }

    int shelf(int shelf, int n) {
        if (!within(shelf, 0, 3) || n > 200) {
            return -1;
        }
        if (n < -1) {
            return -14;
        }
        shelves.remove(shelf);
        if (n >= 0) {
            shelves.put(shelf, "\0".repeat(n));
        }
        return 1;
    }

    int put(int shelf, int i, int c) {
        if (!within(shelf, 0, 3) || !within(c, 0, 255)) {
            return -1;
        }
        String signs = shelves.get(shelf);
        if (signs == null) {
            return -11;
        }
        if (!within(i, 0, signs.length() - 1)) {
            return -13;
        }
        shelves.put(shelf, signs.substring(0, i) + (char) c + signs.substring(i + 1));
        return signs.charAt(i);
    }

    int sign(int shelf, int i) {
        if (!within(shelf, 0, 3)) {
            return -1;
        }
        String signs = shelves.get(shelf);
        if (signs == null) {
            return -11;
        }
        if (i == -1) {
            return signs.length();
        }
        return within(i, 0, signs.length() - 1) ? signs.charAt(i) : -13;
    }

    private String signs(int object, List<Integer> met) {
        if (object == -1) {
            return "-";
        }
        if (met.contains(object)) {
            return "#" + (char) (65 + met.indexOf(object));
        }
        met.add(object);
        Thing thing = things.get(object);
        StringBuilder all = new StringBuilder();
        if (thing.kind == 4) {
            all.append("R").append(thing.k).append(thing.refs.size());
        } else {
            all.append("?LBC".charAt(thing.kind)).append(versions[thing.kind]);
            thing.fields.forEach((name, number) -> all.append(name).append(number));
            all.append(".");
        }
        for (int ref : thing.refs) {
            all.append(signs(ref, met));
        }
        return all.toString();
    }

    String signs(int object) {
        return signs(object, new ArrayList<>());
    }

    int save(int shelf, int object) {
        if (!within(shelf, 0, 3) || (object != -1 && !things.containsKey(object))) {
            return -1;
        }
        String signs = signs(object);
        if (signs.length() > 200) {
            return -3;
        }
        shelves.put(shelf, signs);
        return signs.length();
    }

    int load(int shelf) {
        if (!within(shelf, 0, 3)) {
            return -1;
        }
        if (!shelves.containsKey(shelf)) {
            return -11;
        }
        TreeMap<Integer, Thing> before = new TreeMap<>(things);
        try {
            int whole = new Reader(shelves.get(shelf)).whole();
            return whole == -1 ? -2 : whole;
        } catch (Failed failed) {
            things = before;
            fail = failed.causes;
            return -5;
        }
    }

    /** Recursive descent; each object that is open puts its cause ahead of those inside of it. */
    private final class Reader {
        private final String signs;
        private final List<Integer> ids = new ArrayList<>();
        private int at;

        Reader(String signs) {
            this.signs = signs;
        }

        int whole() throws Failed {
            int whole = part(1);
            if (at < signs.length()) {
                throw new Failed(7, at);
            }
            return whole;
        }

        private char take(String allowed) throws Failed {
            if (at == signs.length() || allowed.indexOf(signs.charAt(at)) < 0) {
                throw new Failed(1, at);
            }
            return signs.charAt(at++);
        }

        private int part(int level) throws Failed {
            int begin = at;
            char c = take("-#LBCR");
            if (c == '-') {
                return -1;
            }
            if (c == '#') {
                int id = take("ABCDEFGHIJKLMNOPQRSTUVWXYZ[\\]^") - 'A';
                if (id >= ids.size()) {
                    throw new Failed(2, at - 1);
                }
                return ids.get(id);
            }
            if (level == 13) {
                throw new Failed(5, begin);
            }
            if (things.size() == 30) {
                throw new Failed(4, begin);
            }
            try {
                return c == 'R' ? row(level) : record("?LBC".indexOf(c), level);
            } catch (Failed failed) {
                failed.causes.add(0, new int[] {8, begin});
                throw failed;
            }
        }

        private int row(int level) throws Failed {
            int k = take("0123") - '0';
            return filled(new Thing(4, k, take("0123456") - '0'), level);
        }

        private int record(int kind, int level) throws Failed {
            take("123");
            Thing thing = new Thing(kind, -2, new int[] {0, 0, 2, 3}[kind]);
            for (char c = take("abcdefgh."); c != '.'; c = take("abcdefgh.")) {
                if (thing.fields.size() == 6 || thing.fields.containsKey(c)) {
                    throw new Failed(6, at - 1);
                }
                thing.fields.put(c, number());
            }
            names(kind, versions[kind]).forEach((name, number) -> {
                if (thing.fields.size() < 6) {
                    thing.fields.putIfAbsent(name, number);
                }
            });
            return filled(thing, level);
        }

        private int number() throws Failed {
            int begin = at;
            char c = take("-0123456789");
            if (c == '-') {
                c = take("123456789");
            }
            if (c != '0' && at < signs.length() && Character.isDigit(signs.charAt(at))) {
                at++;
            }
            return Integer.parseInt(signs.substring(begin, at));
        }

        private int filled(Thing thing, int level) throws Failed {
            int number = least();
            things.put(number, thing);
            ids.add(number);
            for (int i = 0; i < thing.refs.size(); i++) {
                int begin = at;
                int part = part(level + 1);
                if (!holds(thing, things.get(part))) {
                    throw new Failed(3, begin);
                }
                thing.refs.set(i, part);
            }
            return number;
        }
    }

    int cause(int i, int what) {
        if (i < 0 || !within(what, 0, 1)) {
            return -1;
        }
        return i < fail.size() ? fail.get(i)[what] : -2;
    }

    int judge(int shelf, int object) {
        if (!within(shelf, 0, 3) || (object != -1 && !things.containsKey(object))) {
            return -1;
        }
        if (!shelves.containsKey(shelf)) {
            return -11;
        }
        String told = shelves.get(shelf);
        String due = signs(object);
        if (due.length() > 200) {
            return -3;
        }
        if (told.equals(due)) {
            return -2;
        }
        int same = 0;
        while (same < told.length() && due.startsWith(told.substring(0, same + 1))) {
            same++;
        }
        return same;
    }

    private Set<Integer> reach(int object) {
        List<Integer> met = new ArrayList<>();
        signs(object, met);
        return new LinkedHashSet<>(met);
    }

    private boolean isRound(int object) {
        for (int one : reach(object)) {
            for (int ref : things.get(one).refs) {
                if (ref != -1 && reach(ref).contains(one)) {
                    return true;
                }
            }
        }
        return false;
    }

    private int deep(int object, Map<Integer, Integer> known) {
        if (known.containsKey(object)) {
            return known.get(object);
        }
        int deepest = 0;
        for (int ref : things.get(object).refs) {
            deepest = Math.max(deepest, ref == -1 ? 0 : deep(ref, known));
        }
        known.put(object, deepest + 1);
        return deepest + 1;
    }

    private int shared(int object) {
        int shared = 0;
        for (int one : reach(object)) {
            int refs = 0;
            for (int from : reach(object)) {
                for (int ref : things.get(from).refs) {
                    refs += ref == one ? 1 : 0;
                }
            }
            shared += refs > 1 ? 1 : 0;
        }
        return shared;
    }

    int told(int object, int what) {
        if (!things.containsKey(object) || !within(what, 0, 4)) {
            return -1;
        }
        boolean round = isRound(object);
        int length = signs(object).length();
        switch (what) {
            case 0:
                return reach(object).size();
            case 1:
                return shared(object);
            case 2:
                return round ? 1 : 0;
            case 3:
                return round ? -2 : deep(object, new HashMap<>());
            default:
                return length > 200 ? -3 : length;
        }
    }

    int reaches(int object, int other) {
        if (!things.containsKey(object) || !things.containsKey(other)) {
            return -1;
        }
        return reach(other).contains(object) ? 1 : 0;
    }

    /** Two objects have one shape just if they would be saved as the same signs. */
    int alike(int object, int other) {
        if (!things.containsKey(object) || !things.containsKey(other)) {
            return -1;
        }
        return signs(object).equals(signs(other)) ? 1 : 0;
    }

    int stream(int object, int k) {
        if (!things.containsKey(object) || k < 0) {
            return -1;
        }
        String signs = signs(object);
        return signs.length() > 200 ? -3 : k < signs.length() ? signs.charAt(k) : -2;
    }

    private static TreeMap<Integer, Thing> sameThings(TreeMap<Integer, Thing> things) {
        TreeMap<Integer, Thing> same = new TreeMap<>();
        things.forEach((number, thing) -> same.put(number, new Thing(thing)));
        return same;
    }

    private static Map<String, Map<Character, Integer>> sameSchemas(Map<String, Map<Character, Integer>> schemas) {
        Map<String, Map<Character, Integer>> same = new HashMap<>();
        schemas.forEach((key, names) -> same.put(key, new LinkedHashMap<>(names)));
        return same;
    }

    int image() {
        keptThings = sameThings(things);
        keptSchemas = sameSchemas(schemas);
        keptVersions = versions.clone();
        return things.size();
    }

    int back() {
        if (keptThings == null) {
            return -5;
        }
        things = sameThings(keptThings);
        schemas = sameSchemas(keptSchemas);
        versions = keptVersions.clone();
        handles.values().retainAll(things.keySet());
        return things.size();
    }

    int hold(int handle, int object) {
        if (!within(handle, 0, 7) || (object != -1 && !things.containsKey(object))) {
            return -1;
        }
        handles.remove(handle);
        if (object != -1) {
            handles.put(handle, object);
        }
        return 1;
    }

    int held(int handle) {
        return within(handle, 0, 7) ? handles.getOrDefault(handle, -2) : -1;
    }

    int tells(int handle, int as) {
        if (!within(handle, 0, 7) || !within(as, 0, 4)) {
            return -1;
        }
        if (!handles.containsKey(handle)) {
            return -11;
        }
        int object = handles.get(handle);
        Thing thing = things.get(object);
        if (as == 0) {
            return thing.kind;
        }
        if (!List.of("", "1", "23", "3", "4").get(as).contains("" + thing.kind)) {
            return -12;
        }
        if (as == 1) {
            return thing.fields.size();
        }
        return as == 4 ? 10 * thing.k + thing.refs.size() : ref(object, as == 2 ? 0 : 2);
    }

    int count(int what) {
        int[] counts = new int[9];
        for (Thing thing : things.values()) {
            counts[0]++;
            counts[new int[] {0, 1, 2, 2, 3}[thing.kind]]++;
            counts[4] += thing.fields.size();
            for (int ref : thing.refs) {
                counts[5] += ref == -1 ? 0 : 1;
            }
        }
        schemas.values().forEach(names -> counts[6] += names.size());
        counts[7] = handles.size();
        counts[8] = shelves.size();
        return within(what, 0, 8) ? counts[what] : -1;
    }
}
