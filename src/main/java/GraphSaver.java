/**
 * Object graphs saved and loaded. The document (DOC.md) numbers what each call promises.
 *
 * All rows are made in the constructor and used again: no call makes an object or an array.
 */
public final class GraphSaver {
    public static final int BAD = -1, NOT = -2, FULL = -3, STATE = -5;
    public static final int VOID = -2000000000;

    private static final int NOTHING_THERE = -11;
    private static final int OTHER_SORT = -12;
    private static final int NO_SUCH_PLACE = -13;
    private static final int BELOW_ZERO = -14;
    private static final int CANNOT_HOLD = -16;

    private static final int LEAF = 1, BOX = 2, CRATE = 3, ROW = 4;

    private static final int MOST_OBJECTS = 30;
    private static final int MOST_FIELDS = 6;
    private static final int MOST_REFS = 6;
    private static final int MOST_NAMES = 4;
    private static final int MOST_NUMBER = 99;
    private static final int MOST_SIGNS = 200;
    private static final int MOST_SIGN = 255;
    private static final int MOST_INSIDE = 12;
    private static final int VERSIONS = 3;
    private static final int HANDLES = 8;
    private static final int SHELVES = 4;

    /** Stands where a number of an object, of an identity or of a place would stand. */
    private static final int NOTHING = -1;
    /** No number that a stream can tell, and no number of an object. */
    private static final int FAILED = -1000000;
    /** No sign is this one: it is met behind the last. */
    private static final int END = -1;

    private static final int WRONG_SIGN = 1;
    private static final int UNKNOWN_ID = 2;
    private static final int NOT_FOR_ROW = 3;
    private static final int TOO_MANY = 4;
    private static final int TOO_DEEP = 5;
    private static final int WRONG_NAME = 6;
    private static final int SIGNS_BEHIND = 7;
    private static final int PASSED_ON = 8;

    private final World world = new World();
    private final World imaged = new World();
    private final Walk walk = new Walk(world);
    private final Pairing pairing = new Pairing(world);
    private final Loader loader = new Loader(world);
    private final SignRow[] shelves = new SignRow[SHELVES];
    private final int[] handles = new int[HANDLES];
    private final int[] copies = new int[MOST_OBJECTS];
    private boolean hasImage;

    public GraphSaver() {
        for (int i = 0; i < SHELVES; i++) {
            shelves[i] = new SignRow();
        }
        for (int i = 0; i < HANDLES; i++) {
            handles[i] = NOTHING;
        }
    }

    // ---- schemas, objects

    public int schema(int kind, int version, int name, int v) {
        Fields names = world.schemaOf(kind, version);
        if (names == null || !isName(name) || !isNumber(v)) {
            return BAD;
        }
        if (names.has(name)) {
            return STATE;
        }
        return names.append(name, v) ? names.size : FULL;
    }

    public int version(int kind, int version) {
        if (!hasSchemas(kind) || version < 1 || version > VERSIONS) {
            return BAD;
        }
        int before = world.current[kind];
        world.current[kind] = version;
        return before;
    }

    public int byDefault(int kind, int version, int name) {
        Fields names = world.schemaOf(kind, version);
        return names == null ? VOID : names.numberOf(name);
    }

    public int object(int kind) {
        if (!hasSchemas(kind)) {
            return BAD;
        }
        if (world.isFull()) {
            return FULL;
        }
        int number = world.make(kind, 0, refsOf(kind));
        Node node = world.at(number);
        if (node != null) {
            world.addDefaults(node);
        }
        return number;
    }

    public int row(int k, int n) {
        if (k < 0 || k > CRATE || n > MOST_REFS) {
            return BAD;
        }
        if (n < 0) {
            return BELOW_ZERO;
        }
        return world.isFull() ? FULL : world.make(ROW, k, n);
    }

    public int write(int object, int name, int v) {
        Node node = world.at(object);
        if (node == null || node.kind == ROW || !isName(name) || !isNumber(v)) {
            return VOID;
        }
        return node.fields.change(name, v);
    }

    public int read(int object, int name) {
        Node node = world.at(object);
        return node == null ? VOID : node.fields.numberOf(name);
    }

    public int forget(int object, int name) {
        Node node = world.at(object);
        if (node == null || !isName(name)) {
            return BAD;
        }
        if (node.kind == ROW) {
            return OTHER_SORT;
        }
        return node.fields.remove(name) ? node.fields.size : NOT;
    }

    public int graft(int object, int i, int to) {
        Node node = world.at(object);
        if (node == null || !isObjectOrNothing(to)) {
            return BAD;
        }
        if (!node.hasPlace(i)) {
            return NO_SUCH_PLACE;
        }
        if (!node.mayHold(world.at(to))) {
            return CANNOT_HOLD;
        }
        int before = node.refs[i];
        node.refs[i] = to;
        return orNot(before);
    }

    public int ref(int object, int i) {
        Node node = world.at(object);
        if (node == null) {
            return BAD;
        }
        return node.hasPlace(i) ? orNot(node.refs[i]) : NO_SUCH_PLACE;
    }

    public int of(int object, int what) {
        Node node = world.at(object);
        if (node == null) {
            return BAD;
        }
        switch (what) {
            case 0:
                return node.kind;
            case 1:
                return node.fields.size;
            case 2:
                return node.refCount;
            case 3:
                return world.keptOf(node);
            case 4:
                return node.kind == ROW ? node.holds : NOT;
            default:
                return BAD;
        }
    }

    public int name(int object, int i) {
        Node node = world.at(object);
        if (node == null || i < 0) {
            return BAD;
        }
        if (node.kind == ROW) {
            return OTHER_SORT;
        }
        return i < node.fields.size ? node.fields.names[i] : NOT;
    }

    // ---- copies

    public int copy(int object) {
        Node node = world.at(object);
        if (node == null) {
            return BAD;
        }
        if (node.kind != ROW) {
            return OTHER_SORT;
        }
        return world.isFull() ? FULL : world.makeSame(node);
    }

    public int graph(int object) {
        if (world.at(object) == null) {
            return BAD;
        }
        walk.goThrough(object);
        if (walk.met > MOST_OBJECTS - world.howMany()) {
            return FULL;
        }
        for (int id = 0; id < walk.met; id++) {
            copies[id] = world.makeSame(world.at(walk.order[id]));
        }
        for (int id = 0; id < walk.met; id++) {
            pointAtCopies(world.at(copies[id]));
        }
        return copies[0];
    }

    public int sweep() {
        walk.begin();
        for (int i = 0; i < HANDLES; i++) {
            if (handles[i] != NOTHING) {
                walk.goOn(handles[i]);
            }
        }
        int gone = 0;
        for (int i = 0; i < MOST_OBJECTS; i++) {
            if (world.at(i) != null && !walk.hasMet(i)) {
                world.drop(i);
                gone++;
            }
        }
        return gone;
    }

    // ---- streams

    public int shelf(int shelf, int n) {
        if (!isShelf(shelf) || n > MOST_SIGNS) {
            return BAD;
        }
        if (n < NOTHING) {
            return BELOW_ZERO;
        }
        shelves[shelf].becomeZeros(n);
        return 1;
    }

    public int put(int shelf, int i, int c) {
        if (!isShelf(shelf) || c < 0 || c > MOST_SIGN) {
            return BAD;
        }
        SignRow told = shelves[shelf];
        if (told.isNothing()) {
            return NOTHING_THERE;
        }
        if (!told.hasPlace(i)) {
            return NO_SUCH_PLACE;
        }
        int before = told.signs[i];
        told.signs[i] = c;
        return before;
    }

    public int sign(int shelf, int i) {
        if (!isShelf(shelf)) {
            return BAD;
        }
        SignRow told = shelves[shelf];
        if (told.isNothing()) {
            return NOTHING_THERE;
        }
        if (i == NOTHING) {
            return told.length;
        }
        return told.hasPlace(i) ? told.signs[i] : NO_SUCH_PLACE;
    }

    public int save(int shelf, int object) {
        if (!isShelf(shelf) || !isObjectOrNothing(object)) {
            return BAD;
        }
        walk.goThrough(object);
        if (walk.told.isTooLong()) {
            return FULL;
        }
        shelves[shelf].takeFrom(walk.told);
        return walk.told.length;
    }

    public int load(int shelf) {
        if (!isShelf(shelf)) {
            return BAD;
        }
        if (shelves[shelf].isNothing()) {
            return NOTHING_THERE;
        }
        int whole = loader.loadWhole(shelves[shelf]);
        return whole == FAILED ? STATE : orNot(whole);
    }

    public int cause(int i, int what) {
        if (i < 0 || what < 0 || what > 1) {
            return BAD;
        }
        return loader.fail.tell(i, what == 0);
    }

    public int judge(int shelf, int object) {
        if (!isShelf(shelf) || !isObjectOrNothing(object)) {
            return BAD;
        }
        if (shelves[shelf].isNothing()) {
            return NOTHING_THERE;
        }
        walk.goThrough(object);
        return walk.told.isTooLong() ? FULL : shelves[shelf].firstOtherThan(walk.told);
    }

    // ---- in thought

    public int told(int object, int what) {
        if (world.at(object) == null) {
            return BAD;
        }
        walk.goThrough(object);
        switch (what) {
            case 0:
                return walk.met;
            case 1:
                return walk.howManyShared();
            case 2:
                return walk.measureDepth() == NOT ? 1 : 0;
            case 3:
                return walk.measureDepth();
            case 4:
                return walk.told.isTooLong() ? FULL : walk.told.length;
            default:
                return BAD;
        }
    }

    public int reaches(int object, int other) {
        if (world.at(object) == null || world.at(other) == null) {
            return BAD;
        }
        walk.goThrough(other);
        return walk.hasMet(object) ? 1 : 0;
    }

    public int alike(int object, int other) {
        if (world.at(object) == null || world.at(other) == null) {
            return BAD;
        }
        return pairing.fits(object, other) ? 1 : 0;
    }

    public int stream(int object, int k) {
        if (world.at(object) == null || k < 0) {
            return BAD;
        }
        walk.goThrough(object);
        if (walk.told.isTooLong()) {
            return FULL;
        }
        return walk.told.hasPlace(k) ? walk.told.signs[k] : NOT;
    }

    // ---- images, handles

    public int image() {
        imaged.takeFrom(world);
        hasImage = true;
        return imaged.howMany();
    }

    public int back() {
        if (!hasImage) {
            return STATE;
        }
        world.takeFrom(imaged);
        for (int i = 0; i < HANDLES; i++) {
            if (world.at(handles[i]) == null) {
                handles[i] = NOTHING;
            }
        }
        return world.howMany();
    }

    public int hold(int handle, int object) {
        if (!isHandle(handle) || !isObjectOrNothing(object)) {
            return BAD;
        }
        handles[handle] = object;
        return 1;
    }

    public int held(int handle) {
        return isHandle(handle) ? orNot(handles[handle]) : BAD;
    }

    public int tells(int handle, int as) {
        if (!isHandle(handle) || as < 0 || as > ROW) {
            return BAD;
        }
        Node node = world.at(handles[handle]);
        if (node == null) {
            return NOTHING_THERE;
        }
        switch (as) {
            case LEAF:
                return node.kind == LEAF ? node.fields.size : OTHER_SORT;
            case BOX:
                return node.kind == BOX || node.kind == CRATE ? orNot(node.refs[0]) : OTHER_SORT;
            case CRATE:
                return node.kind == CRATE ? orNot(node.refs[2]) : OTHER_SORT;
            case ROW:
                return node.kind == ROW ? 10 * node.holds + node.refCount : OTHER_SORT;
            default:
                return node.kind;
        }
    }

    public int count(int what) {
        switch (what) {
            case 0:
                return world.howMany();
            case 1:
                return world.howManyOf(LEAF);
            case 2:
                return world.howManyOf(BOX) + world.howManyOf(CRATE);
            case 3:
                return world.howManyOf(ROW);
            case 4:
                return world.howManyFields();
            case 5:
                return world.howManyRefs();
            case 6:
                return world.howManyNames();
            case 7:
                return usedHandles();
            case 8:
                return usedShelves();
            default:
                return BAD;
        }
    }

    // ---- what several calls use

    private int usedHandles() {
        int used = 0;
        for (int i = 0; i < HANDLES; i++) {
            used += handles[i] == NOTHING ? 0 : 1;
        }
        return used;
    }

    private int usedShelves() {
        int used = 0;
        for (int i = 0; i < SHELVES; i++) {
            used += shelves[i].isNothing() ? 0 : 1;
        }
        return used;
    }

    /** A copied object still has the references of the one it was copied from: all of them were met. */
    private void pointAtCopies(Node node) {
        if (node == null) {
            return;
        }
        for (int i = 0; i < node.refCount; i++) {
            if (walk.hasMet(node.refs[i])) {
                node.refs[i] = copies[walk.ids[node.refs[i]]];
            }
        }
    }

    private boolean isObjectOrNothing(int object) {
        return object == NOTHING || world.at(object) != null;
    }

    private static boolean isShelf(int shelf) {
        return shelf >= 0 && shelf < SHELVES;
    }

    private static boolean isHandle(int handle) {
        return handle >= 0 && handle < HANDLES;
    }

    private static boolean isName(int name) {
        return name >= 'a' && name <= 'h';
    }

    private static boolean isNumber(int v) {
        return v >= -MOST_NUMBER && v <= MOST_NUMBER;
    }

    private static boolean hasSchemas(int kind) {
        return kind >= LEAF && kind <= CRATE;
    }

    /** How many references an object of a kind with fields has. */
    private static int refsOf(int kind) {
        return kind == LEAF ? 0 : kind;
    }

    private static int orNot(int object) {
        return object == NOTHING ? NOT : object;
    }

    /** Names with numbers, in the order in which they came: an object's fields, or a version's defaults. */
    private static final class Fields {
        final int most;
        final int[] names = new int[MOST_FIELDS];
        final int[] numbers = new int[MOST_FIELDS];
        int size;

        Fields(int most) {
            this.most = Math.min(most, MOST_FIELDS);
        }

        int placeOf(int name) {
            for (int i = 0; i < size; i++) {
                if (names[i] == name) {
                    return i;
                }
            }
            return NOTHING;
        }

        boolean has(int name) {
            return placeOf(name) != NOTHING;
        }

        int numberOf(int name) {
            int place = placeOf(name);
            return place == NOTHING ? VOID : numbers[place];
        }

        boolean isFull() {
            return size >= most;
        }

        boolean append(int name, int number) {
            if (isFull()) {
                return false;
            }
            names[size] = name;
            numbers[size] = number;
            size++;
            return true;
        }

        /** What the number was: 0 for a name that comes now, VOID if there is no room for it. */
        int change(int name, int number) {
            int place = placeOf(name);
            if (place == NOTHING) {
                return append(name, number) ? 0 : VOID;
            }
            int before = numbers[place];
            numbers[place] = number;
            return before;
        }

        boolean remove(int name) {
            int place = placeOf(name);
            if (place == NOTHING) {
                return false;
            }
            size--;
            for (int i = place; i < size; i++) {
                names[i] = names[i + 1];
                numbers[i] = numbers[i + 1];
            }
            return true;
        }

        void clear() {
            size = 0;
        }

        void takeFrom(Fields other) {
            clear();
            for (int i = 0; i < other.size; i++) {
                append(other.names[i], other.numbers[i]);
            }
        }

        /** Those names that aren't here yet come behind, as far as there is room. */
        void addMissing(Fields other) {
            for (int i = 0; i < other.size; i++) {
                if (!has(other.names[i])) {
                    append(other.names[i], other.numbers[i]);
                }
            }
        }

        int howManyBeside(Fields other) {
            int beside = 0;
            for (int i = 0; i < size; i++) {
                beside += other.has(names[i]) ? 0 : 1;
            }
            return beside;
        }

        boolean isSameAs(Fields other) {
            if (size != other.size) {
                return false;
            }
            for (int i = 0; i < size; i++) {
                if (names[i] != other.names[i] || numbers[i] != other.numbers[i]) {
                    return false;
                }
            }
            return true;
        }
    }

    /** The room of one object; its kind is 0 as long as there is none in it. */
    private static final class Node {
        final Fields fields = new Fields(MOST_FIELDS);
        final int[] refs = new int[MOST_REFS];
        int kind;
        int holds;
        int refCount;

        void become(int newKind, int k, int length) {
            kind = newKind;
            holds = k;
            refCount = Math.max(0, Math.min(length, MOST_REFS));
            fields.clear();
            for (int i = 0; i < MOST_REFS; i++) {
                refs[i] = NOTHING;
            }
        }

        void takeFrom(Node other) {
            kind = other.kind;
            holds = other.holds;
            refCount = other.refCount;
            fields.takeFrom(other.fields);
            System.arraycopy(other.refs, 0, refs, 0, MOST_REFS);
        }

        boolean hasPlace(int i) {
            return i >= 0 && i < refCount;
        }

        /** A crate is under box, so a row for boxes holds it; nothing (null) is held by all. */
        boolean mayHold(Node other) {
            if (other == null || kind != ROW || holds == 0) {
                return true;
            }
            return other.kind == holds || (holds == BOX && other.kind == CRATE);
        }

        boolean looksLike(Node other) {
            return kind == other.kind && holds == other.holds && refCount == other.refCount
                && fields.isSameAs(other.fields);
        }

        int howManyRefs() {
            int found = 0;
            for (int i = 0; i < refCount; i++) {
                found += refs[i] == NOTHING ? 0 : 1;
            }
            return found;
        }
    }

    /** What an image keeps: objects, schemas, current versions. */
    private static final class World {
        final Node[] nodes = new Node[MOST_OBJECTS];
        final Fields[] schemas = new Fields[CRATE * VERSIONS];
        final int[] current = new int[CRATE + 1];

        World() {
            for (int i = 0; i < MOST_OBJECTS; i++) {
                nodes[i] = new Node();
            }
            for (int i = 0; i < CRATE * VERSIONS; i++) {
                schemas[i] = new Fields(MOST_NAMES);
            }
            for (int i = 0; i <= CRATE; i++) {
                current[i] = 1;
            }
        }

        /** The object of that number, or null. */
        Node at(int number) {
            if (number < 0 || number >= MOST_OBJECTS || nodes[number].kind == 0) {
                return null;
            }
            return nodes[number];
        }

        /** The names of that version, or null. */
        Fields schemaOf(int kind, int version) {
            if (!hasSchemas(kind) || version < 1 || version > VERSIONS) {
                return null;
            }
            return schemas[(kind - 1) * VERSIONS + version - 1];
        }

        Fields currentSchemaOf(int kind) {
            return hasSchemas(kind) ? schemaOf(kind, current[kind]) : null;
        }

        /** The least number that none has, or NOTHING. */
        private int freeNumber() {
            for (int i = 0; i < MOST_OBJECTS; i++) {
                if (nodes[i].kind == 0) {
                    return i;
                }
            }
            return NOTHING;
        }

        boolean isFull() {
            return freeNumber() == NOTHING;
        }

        int make(int kind, int k, int length) {
            int number = freeNumber();
            if (number != NOTHING) {
                nodes[number].become(kind, k, length);
            }
            return number;
        }

        int makeSame(Node other) {
            int number = freeNumber();
            if (number != NOTHING && other != null) {
                nodes[number].takeFrom(other);
            }
            return number;
        }

        void drop(int number) {
            if (number >= 0 && number < MOST_OBJECTS) {
                nodes[number].become(0, 0, 0);
            }
        }

        void addDefaults(Node node) {
            Fields names = currentSchemaOf(node.kind);
            if (names != null) {
                node.fields.addMissing(names);
            }
        }

        int keptOf(Node node) {
            Fields names = currentSchemaOf(node.kind);
            return names == null ? 0 : node.fields.howManyBeside(names);
        }

        int howManyOf(int kind) {
            int found = 0;
            for (int i = 0; i < MOST_OBJECTS; i++) {
                found += nodes[i].kind == kind ? 1 : 0;
            }
            return found;
        }

        int howMany() {
            return MOST_OBJECTS - howManyOf(0);
        }

        /** A room without an object has no fields and no references: drop() sees to it. */
        int howManyFields() {
            int found = 0;
            for (int i = 0; i < MOST_OBJECTS; i++) {
                found += nodes[i].fields.size;
            }
            return found;
        }

        int howManyRefs() {
            int found = 0;
            for (int i = 0; i < MOST_OBJECTS; i++) {
                found += nodes[i].howManyRefs();
            }
            return found;
        }

        int howManyNames() {
            int found = 0;
            for (int i = 0; i < CRATE * VERSIONS; i++) {
                found += schemas[i].size;
            }
            return found;
        }

        void takeFrom(World other) {
            for (int i = 0; i < MOST_OBJECTS; i++) {
                nodes[i].takeFrom(other.nodes[i]);
            }
            for (int i = 0; i < CRATE * VERSIONS; i++) {
                schemas[i].takeFrom(other.schemas[i]);
            }
            System.arraycopy(other.current, 0, current, 0, CRATE + 1);
        }
    }

    /** A row of signs; its length is NOTHING where a shelf holds nothing. */
    private static final class SignRow {
        final int[] signs = new int[MOST_SIGNS];
        int length = NOTHING;

        boolean isNothing() {
            return length == NOTHING;
        }

        boolean isTooLong() {
            return length > MOST_SIGNS;
        }

        boolean hasPlace(int i) {
            return i >= 0 && i < length && i < MOST_SIGNS;
        }

        int signAt(int i) {
            return hasPlace(i) ? signs[i] : END;
        }

        void becomeZeros(int n) {
            length = n;
            for (int i = 0; i < MOST_SIGNS; i++) {
                signs[i] = 0;
            }
        }

        /** Signs beyond the most are only counted: such a stream is never given away. */
        void add(int c) {
            if (length >= 0 && length < MOST_SIGNS) {
                signs[length] = c;
            }
            length++;
        }

        void takeFrom(SignRow other) {
            length = other.length;
            System.arraycopy(other.signs, 0, signs, 0, MOST_SIGNS);
        }

        int firstOtherThan(SignRow due) {
            for (int i = 0; i < length; i++) {
                if (signAt(i) != due.signAt(i)) {
                    return i;
                }
            }
            return length < due.length ? length : NOT;
        }
    }

    /** Goes through an object's reach in the order of its signs, which come from the same walk. */
    private static final class Walk {
        final World world;
        final SignRow told = new SignRow();
        final int[] ids = new int[MOST_OBJECTS];
        final int[] order = new int[MOST_OBJECTS];
        final int[] numbers = new int[MOST_OBJECTS];
        int met;

        Walk(World world) {
            this.world = world;
        }

        void begin() {
            met = 0;
            told.length = 0;
            for (int i = 0; i < MOST_OBJECTS; i++) {
                ids[i] = NOTHING;
            }
        }

        void goOn(int object) {
            meet(object, 0);
        }

        void goThrough(int object) {
            begin();
            goOn(object);
        }

        boolean hasMet(int object) {
            return object >= 0 && object < MOST_OBJECTS && ids[object] != NOTHING;
        }

        /** Each level has met one object more, so no walk comes to the bound of the depth. */
        private void meet(int object, int depth) {
            Node node = world.at(object);
            if (node == null) {
                told.add('-');
                return;
            }
            if (hasMet(object)) {
                told.add('#');
                told.add('A' + ids[object]);
                return;
            }
            if (depth >= MOST_OBJECTS || met >= MOST_OBJECTS) {
                return;
            }
            ids[object] = met;
            order[met] = object;
            met++;
            tellHead(node);
            for (int i = 0; i < node.refCount; i++) {
                meet(node.refs[i], depth + 1);
            }
        }

        private void tellHead(Node node) {
            if (node.kind == ROW) {
                told.add('R');
                told.add('0' + node.holds);
                told.add('0' + node.refCount);
                return;
            }
            told.add(node.kind == LEAF ? 'L' : node.kind == BOX ? 'B' : 'C');
            told.add('0' + (hasSchemas(node.kind) ? world.current[node.kind] : 0));
            for (int i = 0; i < node.fields.size; i++) {
                told.add(node.fields.names[i]);
                tellNumber(node.fields.numbers[i]);
            }
            told.add('.');
        }

        private void tellNumber(int number) {
            if (number < 0) {
                told.add('-');
            }
            int size = Math.abs(number);
            if (size >= 10) {
                told.add('0' + size / 10);
            }
            told.add('0' + size % 10);
        }

        int howManyShared() {
            clearNumbers();
            for (int id = 0; id < met; id++) {
                countRefs(world.at(order[id]));
            }
            int shared = 0;
            for (int i = 0; i < MOST_OBJECTS; i++) {
                shared += numbers[i] >= 2 ? 1 : 0;
            }
            return shared;
        }

        private void clearNumbers() {
            for (int i = 0; i < MOST_OBJECTS; i++) {
                numbers[i] = 0;
            }
        }

        private void countRefs(Node node) {
            if (node == null) {
                return;
            }
            for (int i = 0; i < node.refCount; i++) {
                if (hasMet(node.refs[i])) {
                    numbers[node.refs[i]]++;
                }
            }
        }

        /**
         * How many stand one behind the other from the first met on; NOT, if it goes round.
         * A round more than there are objects changes no depth, but where it goes round: there
         * no depths are right, and each round makes one greater.
         */
        int measureDepth() {
            clearNumbers();
            for (int round = 0; round <= MOST_OBJECTS; round++) {
                if (!deepenAll()) {
                    return met > 0 ? numbers[order[0]] : 0;
                }
            }
            return NOT;
        }

        /** Whether one of the depths grew. */
        private boolean deepenAll() {
            boolean grew = false;
            for (int id = met - 1; id >= 0; id--) {
                int depth = 1 + deepestRefOf(world.at(order[id]));
                if (depth > numbers[order[id]]) {
                    numbers[order[id]] = depth;
                    grew = true;
                }
            }
            return grew;
        }

        private int deepestRefOf(Node node) {
            int deepest = 0;
            for (int i = 0; node != null && i < node.refCount; i++) {
                if (hasMet(node.refs[i])) {
                    deepest = Math.max(deepest, numbers[node.refs[i]]);
                }
            }
            return deepest;
        }
    }

    /** Goes through two graphs at once; each object of the one is bound to one of the other, both ways. */
    private static final class Pairing {
        final World world;
        final int[] standsFor = new int[MOST_OBJECTS];
        final int[] isStoodForBy = new int[MOST_OBJECTS];
        final int[] bound = new int[MOST_OBJECTS];
        int boundCount;

        Pairing(World world) {
            this.world = world;
        }

        boolean fits(int one, int other) {
            boundCount = 0;
            for (int i = 0; i < MOST_OBJECTS; i++) {
                standsFor[i] = NOTHING;
                isStoodForBy[i] = NOTHING;
            }
            boolean fits = bind(one, other);
            for (int i = 0; fits && i < boundCount && i < MOST_OBJECTS; i++) {
                fits = bindRefs(world.at(bound[i]), world.at(standsFor[bound[i]]));
            }
            return fits;
        }

        private boolean bindRefs(Node one, Node other) {
            boolean fits = one != null && other != null;
            for (int i = 0; fits && i < one.refCount; i++) {
                fits = bind(one.refs[i], other.refs[i]);
            }
            return fits;
        }

        private boolean bind(int one, int other) {
            Node node = world.at(one);
            Node otherNode = world.at(other);
            if (node == null || otherNode == null) {
                return node == null && otherNode == null;
            }
            if (standsFor[one] != NOTHING || isStoodForBy[other] != NOTHING) {
                return standsFor[one] == other;
            }
            if (!node.looksLike(otherNode) || boundCount >= MOST_OBJECTS) {
                return false;
            }
            standsFor[one] = other;
            isStoodForBy[other] = one;
            bound[boundCount] = one;
            boundCount++;
            return true;
        }
    }

    /** Why a load failed, the first cause first; it stays until another one fails. */
    private static final class Fail {
        final int[] whys = new int[MOST_INSIDE + 1];
        final int[] places = new int[MOST_INSIDE + 1];
        int size;

        /** Answers FAILED, so that a reader can end with it. */
        int beginAt(int place, int why) {
            whys[0] = why;
            places[0] = place;
            size = 1;
            return FAILED;
        }

        int passOn(int place) {
            if (size <= MOST_INSIDE) {
                whys[size] = PASSED_ON;
                places[size] = place;
                size++;
            }
            return FAILED;
        }

        /** Told from the outermost on, which came last. */
        int tell(int i, boolean why) {
            if (i < 0 || i >= size) {
                return NOT;
            }
            return why ? whys[size - 1 - i] : places[size - 1 - i];
        }
    }

    /** Reads a stream; its methods answer FAILED (or false) when they have begun the fail. */
    private static final class Loader {
        final World world;
        final Fail fail = new Fail();
        final Fields fields = new Fields(MOST_FIELDS);
        final int[] made = new int[MOST_OBJECTS];
        int madeCount;
        SignRow from;
        int place;

        Loader(World world) {
            this.world = world;
        }

        /** The number of the whole, NOTHING, or FAILED. */
        int loadWhole(SignRow told) {
            from = told;
            place = 0;
            madeCount = 0;
            int whole = loadPart(0);
            if (whole != FAILED && signHere() != END) {
                whole = fail.beginAt(place, SIGNS_BEHIND);
            }
            if (whole == FAILED) {
                dropMade();
            }
            return whole;
        }

        private void dropMade() {
            for (int id = 0; id < madeCount; id++) {
                world.drop(made[id]);
            }
        }

        private int signHere() {
            boolean isThere = from != null && place < from.length && place < MOST_SIGNS;
            return isThere ? from.signs[place] : END;
        }

        /** An object, nothing, or one met already; depth says inside of how many it stands. */
        private int loadPart(int depth) {
            int begin = place;
            int c = signHere();
            if (c == '-') {
                place++;
                return NOTHING;
            }
            if (c == '#') {
                place++;
                return loadMet();
            }
            int kind = kindOf(c);
            int why = whyNotTaken(kind, depth);
            if (why != 0) {
                return fail.beginAt(begin, why);
            }
            place++;
            int number = kind == ROW ? loadRowHead() : loadHead(kind);
            if (number == FAILED || !loadRefs(number, depth)) {
                return fail.passOn(begin);
            }
            return number;
        }

        private static int kindOf(int c) {
            switch (c) {
                case 'L':
                    return LEAF;
                case 'B':
                    return BOX;
                case 'C':
                    return CRATE;
                case 'R':
                    return ROW;
                default:
                    return 0;
            }
        }

        /** Room is looked for at the letter: the fail is told of it, and its fields are not read. */
        private int whyNotTaken(int kind, int depth) {
            if (kind == 0) {
                return WRONG_SIGN;
            }
            if (depth >= MOST_INSIDE) {
                return TOO_DEEP;
            }
            return world.isFull() ? TOO_MANY : 0;
        }

        private int loadMet() {
            int id = signHere() - 'A';
            if (id < 0 || id >= MOST_OBJECTS) {
                return fail.beginAt(place, WRONG_SIGN);
            }
            if (id >= madeCount) {
                return fail.beginAt(place, UNKNOWN_ID);
            }
            place++;
            return made[id];
        }

        private int loadRowHead() {
            int k = loadDigit(0, CRATE);
            int length = k == FAILED ? FAILED : loadDigit(0, MOST_REFS);
            return length == FAILED ? FAILED : make(ROW, k, length);
        }

        /** The version told only has to be one: the current one gives the defaults. */
        private int loadHead(int kind) {
            if (loadDigit(1, VERSIONS) == FAILED || !loadFields()) {
                return FAILED;
            }
            int number = make(kind, 0, refsOf(kind));
            Node node = world.at(number);
            if (node != null) {
                node.fields.takeFrom(fields);
                world.addDefaults(node);
            }
            return number;
        }

        private int make(int kind, int k, int length) {
            int number = world.make(kind, k, length);
            if (number == NOTHING || madeCount >= MOST_OBJECTS) {
                return fail.beginAt(place, TOO_MANY);
            }
            made[madeCount] = number;
            madeCount++;
            return number;
        }

        private int loadDigit(int least, int most) {
            int digit = signHere() - '0';
            if (digit < least || digit > most) {
                return fail.beginAt(place, WRONG_SIGN);
            }
            place++;
            return digit;
        }

        /** A seventh field fails, so behind the loop a point is met. */
        private boolean loadFields() {
            fields.clear();
            for (int i = 0; i <= MOST_FIELDS && signHere() != '.'; i++) {
                int name = signHere();
                int why = whyNoField(name);
                if (why != 0) {
                    fail.beginAt(place, why);
                    return false;
                }
                place++;
                int number = loadNumber();
                if (number == FAILED) {
                    return false;
                }
                fields.append(name, number);
            }
            place++;
            return true;
        }

        private int whyNoField(int name) {
            if (!isName(name)) {
                return WRONG_SIGN;
            }
            return fields.has(name) || fields.isFull() ? WRONG_NAME : 0;
        }

        /** A digit too many is left where it is: as the next name it is a wrong sign. */
        private int loadNumber() {
            boolean below = signHere() == '-';
            if (below) {
                place++;
            }
            int number = loadDigit(below ? 1 : 0, 9);
            if (number == FAILED) {
                return FAILED;
            }
            int digit = signHere() - '0';
            if (number > 0 && digit >= 0 && digit <= 9) {
                place++;
                number = 10 * number + digit;
            }
            return below ? -number : number;
        }

        private boolean loadRefs(int number, int depth) {
            Node node = world.at(number);
            for (int i = 0; node != null && i < node.refCount; i++) {
                int begin = place;
                int part = loadPart(depth + 1);
                if (part == FAILED) {
                    return false;
                }
                if (!node.mayHold(world.at(part))) {
                    fail.beginAt(begin, NOT_FOR_ROW);
                    return false;
                }
                node.refs[i] = part;
            }
            return true;
        }
    }
}
