import java.util.Arrays;

/**
 * A house for files of pages. The face keeps the tape and the cursor; the classes inside it each do one
 * part of the work, all of them on rows that are made once, with the house.
 */
public final class PaperHouse {
    public static final int NONE = -1;

    private static final int TAPE_ROOM = 8000;
    private static final int DEEPEST = 24;
    private static final int STREAM = 9;
    private static final int GREATEST = 2147483647;
    private static final int LEAST = -2147483648;

    // More than there can be: each object is read once, and a stream's bytes are looked at twice.
    private static final int ROUNDS = 1000;

    private final byte[] tape;
    private int taped;
    private final Store store;
    private final Table table;
    private final Parser parser;
    private final Sections sections;
    private final Loader loader;
    private final Tree tree;
    private final Painter painter;
    private final Changes changes;
    private final Writer writer;
    private final int[] path;
    private int steps;
    private int standing;
    private boolean open;
    private int loadFault;
    private int loadPlace;
    private int showFault;
    private int showPlace;

    public PaperHouse() {
        tape = new byte[TAPE_ROOM];
        store = new Store();
        table = new Table(store);
        parser = new Parser(store);
        Filters filters = new Filters(store);
        sections = new Sections(parser, table, filters);
        loader = new Loader(parser, table, filters);
        tree = new Tree(parser, table);
        painter = new Painter(table, tree);
        changes = new Changes(table, tree);
        writer = new Writer(table);
        path = new int[DEEPEST + 1];
        steps = NONE;
        loadPlace = NONE;
        showPlace = NONE;
    }

    // ---- the tape

    public int feed(int a, int b, int c, int d, int e) {
        if (taped + 20 > TAPE_ROOM) {
            return NONE;
        }
        layNumber(a);
        layNumber(b);
        layNumber(c);
        layNumber(d);
        layNumber(e);
        return taped;
    }

    private void layNumber(int number) {
        for (int shift = 24; shift >= 0; shift -= 8) {
            if (taped >= 0 && taped < tape.length) {
                tape[taped] = (byte) (number >> shift);
                taped++;
            }
        }
    }

    public int cut(int n) {
        if (n < 0 || n > taped) {
            return NONE;
        }
        int went = taped - n;
        taped = n;
        return went;
    }

    public int load() {
        steps = NONE;
        showFault = 0;
        showPlace = NONE;
        painter.forget();
        int begin = loader.begin(tape, taped);
        taped = 0;
        sections.clear();
        for (int i = 0; i <= Sections.MOST && begin >= 0; i++) {
            begin = sections.read(begin, loader.file);
        }
        int nodes = store.nodes;
        boolean goesOn = parser.fault == 0;
        if (goesOn) {
            table.close(store.wholeEntry(sections.trailer, Store.SIZE));
        }
        for (int i = 0; i < ROUNDS && goesOn; i++) {
            boolean resumes = loader.isWaiting();
            int n = resumes ? loader.readBody() : loader.nextUnread();
            if (n > 0) {
                loader.readObject(n);
            }
            goesOn = parser.fault == 0 && (n > 0 || resumes);
        }
        if (parser.fault == 0) {
            table.nameAll(sections.trailerFrom, sections.trailerTo);
            table.nameAll(nodes, store.nodes);
            tree.read(sections.trailer);
        }
        loadFault = parser.fault;
        open = loadFault == 0;
        loadPlace = open ? NONE : parser.place;
        return open ? tree.leaves : -100 - loadFault;
    }

    public int fault(int what) {
        switch (what) {
            case 0:
                return loadFault;
            case 1:
                return loadPlace;
            case 2:
                return showFault;
            case 3:
                return showPlace;
            default:
                return NONE;
        }
    }

    // ---- objects

    public int objects() {
        if (!open) {
            return NONE;
        }
        int taken = 0;
        for (int n = 1; n < table.limit; n++) {
            if (!table.isFree(n)) {
                taken++;
            }
        }
        return taken;
    }

    public int go(int n) {
        steps = NONE;
        if (!open || table.isFree(n)) {
            return NONE;
        }
        steps = 0;
        standing = n;
        path[0] = table.rootOf(n);
        return kindHere();
    }

    private boolean isNowhere() {
        return !open || steps < 0 || steps >= path.length;
    }

    private int nodeHere() {
        return isNowhere() ? NONE : path[steps];
    }

    private int keyHere() {
        return isNowhere() || steps == 0 ? NONE : store.keyOf(path[steps]);
    }

    private int kindHere() {
        if (steps == 0 && table.isStream(standing)) {
            return STREAM;
        }
        return store.kindOf(nodeHere());
    }

    public int down(int i) {
        if (isNowhere() || steps >= DEEPEST) {
            return NONE;
        }
        int part = store.part(path[steps], i);
        if (part < 0) {
            return NONE;
        }
        steps++;
        path[steps] = part;
        return kindHere();
    }

    public int up() {
        if (isNowhere() || steps == 0) {
            return NONE;
        }
        steps--;
        return steps;
    }

    public int here(int what) {
        if (isNowhere() || what < 0 || what > 4) {
            return NONE;
        }
        int kind = kindHere();
        int node = nodeHere();
        switch (what) {
            case 0:
                return kind;
            case 1:
                return kind == Store.TRUTH || kind == Store.WHOLE || kind == Store.REAL
                        || kind == Store.REFERENCE ? store.oneOf(node) : 0;
            case 2:
                return kind == STREAM || kind >= Store.NAME && kind <= Store.DICT ? store.twoOf(node) : 0;
            case 3:
                return kind == Store.REFERENCE ? store.twoOf(node) : 0;
            default:
                return Math.max(0, store.letters(keyHere()));
        }
    }

    public int letter(int i, boolean key) {
        if (isNowhere()) {
            return NONE;
        }
        return store.letterOf(key ? keyHere() : nodeHere(), i);
    }

    public int size(int n) {
        return open && table.isStream(n) ? table.lengthOf(n) : NONE;
    }

    public int data(int n, int i) {
        return open ? table.byteOf(n, i) : NONE;
    }

    public int count(int what) {
        if (!open) {
            return NONE;
        }
        switch (what) {
            case 0:
                return table.limit;
            case 1:
                return table.catalog;
            case 2:
                return table.info;
            case 3:
                return sections.begun;
            case 4:
                return sections.inRows ? 1 : 0;
            case 5:
                return sections.newest();
            case 6:
                return table.changes();
            default:
                return NONE;
        }
    }

    // ---- pages

    public int pages() {
        return open ? tree.leaves : NONE;
    }

    public int page(int k, int what) {
        if (!open) {
            return NONE;
        }
        if (!tree.has(k)) {
            return 0;
        }
        int n = tree.leafAt(k);
        switch (what) {
            case 0:
                return n;
            case 1:
            case 2:
            case 3:
            case 4:
                int box = table.value(tree.attribute(n, Store.MEDIA_BOX));
                return store.units(table.value(store.part(box, what - 1)));
            case 5:
                return store.oneOf(table.value(tree.attribute(n, Store.ROTATE)));
            case 6:
                return tree.contentBytes(n);
            default:
                return 0;
        }
    }

    public int show(int k) {
        if (!open || !tree.has(k)) {
            return NONE;
        }
        painter.paint(tree.leafAt(k));
        showFault = painter.wrong();
        showPlace = showFault == 0 ? NONE : painter.wrongAt();
        return showFault == 0 ? painter.glyphs : -100 - showFault;
    }

    public int glyph(int i, int what) {
        return open ? painter.glyphAt(i, what) : NONE;
    }

    // ---- changes

    public int insert(int k, int w, int h) {
        return open ? changed(changes.insertPage(k, w, h)) : NONE;
    }

    public int delete(int k) {
        return open ? changed(changes.deletePage(k)) : NONE;
    }

    public int move(int k, int to) {
        return open ? changed(changes.movePage(k, to)) : NONE;
    }

    public boolean turn(int k, int degrees) {
        return open && changed(changes.turnPage(k, degrees)) != NONE;
    }

    public int contents(int k) {
        int length = taped;
        taped = 0;
        return open ? changed(changes.setContents(k, tape, length)) : NONE;
    }

    public int info(int which) {
        int length = taped;
        taped = 0;
        return open ? changed(changes.setInfo(which, tape, length)) : NONE;
    }

    /** Behind a change that was made the cursor is nowhere. */
    private int changed(int answer) {
        if (answer != NONE) {
            steps = NONE;
        }
        return answer;
    }

    // ---- writing

    public int whole() {
        writer.clear();
        return open ? writer.writeWhole() : NONE;
    }

    public int more() {
        writer.clear();
        return open ? writer.writeMore(loader.file, loader.length, sections.newest(), sections.inRows) : NONE;
    }

    public int outs() {
        return writer.written;
    }

    public int out(int i) {
        return writer.byteAt(i);
    }

    public int sum() {
        return Writer.adler(writer.out, 0, writer.written);
    }

    public int take() {
        if (writer.written > TAPE_ROOM) {
            return NONE;
        }
        taped = 0;
        for (int i = 0; i < writer.written && i < tape.length; i++) {
            tape[i] = (byte) writer.byteAt(i);
            taped++;
        }
        return taped;
    }

    /**
     * All objects and their parts, as nodes in rows. Of a node: its kind; one and two: the value of a truth,
     * a whole, a real; number and generation of a reference; where the bytes of a name or string begin and
     * how many they are; the first part of an array or dict and how many it has; next: the part behind it;
     * key: the name whose entry it is.
     */
    private static final class Store {
        static final int NULL = 0;
        static final int TRUTH = 1;
        static final int WHOLE = 2;
        static final int REAL = 3;
        static final int NAME = 4;
        static final int STRING = 5;
        static final int ARRAY = 6;
        static final int DICT = 7;
        static final int REFERENCE = 8;

        // The nodes of the names in KNOWN, as they stand there.
        static final int TYPE = 1;
        static final int CATALOG = 2;
        static final int PAGES = 3;
        static final int PAGE = 4;
        static final int KIDS = 5;
        static final int COUNT = 6;
        static final int PARENT = 7;
        static final int MEDIA_BOX = 8;
        static final int RESOURCES = 9;
        static final int ROTATE = 10;
        static final int CONTENTS = 11;
        static final int FONT = 12;
        static final int FIRST_CHAR = 13;
        static final int LAST_CHAR = 14;
        static final int WIDTHS = 15;
        static final int TITLE = 16;
        static final int LENGTH = 20;
        static final int FILTER = 21;
        static final int DECODE_PARMS = 22;
        static final int FLATE_DECODE = 23;
        static final int ASCII_HEX_DECODE = 24;
        static final int PREDICTOR = 25;
        static final int COLUMNS = 26;
        static final int COLORS = 27;
        static final int BITS_PER_COMPONENT = 28;
        static final int XREF = 29;
        static final int W = 30;
        static final int INDEX = 31;
        static final int SIZE = 32;
        static final int PREV = 33;
        static final int ENCRYPT = 34;
        static final int XREF_STM = 35;
        static final int ROOT = 36;
        static final int INFO = 37;
        static final int OBJ_STM = 38;
        static final int N = 39;
        static final int FIRST = 40;
        private static final String KNOWN =
                "Type Catalog Pages Page Kids Count Parent MediaBox Resources Rotate Contents Font FirstChar LastChar Widths Title Author Subject Keywords Length Filter DecodeParms FlateDecode ASCIIHexDecode Predictor Columns Colors BitsPerComponent XRef W Index Size Prev Encrypt XRefStm Root Info ObjStm N First ";

        static final int READ_NODES = 6000;
        static final int READ_TEXT = 60000;
        static final int INFO_TEXT = 2000;
        private static final int INFO_AT = 512;
        private static final int READ_AT = INFO_AT + 4 * INFO_TEXT;
        private static final int CHANGED_NODES = 4500;
        private static final int SHOWN_TEXT = 40100;
        private static final int NODE_ROOM = 64 + READ_NODES + CHANGED_NODES + READ_NODES;
        private static final int TEXT_ROOM = READ_AT + READ_TEXT + SHOWN_TEXT;

        final int[] kind;
        final int[] one;
        final int[] two;
        final int[] next;
        final int[] key;
        final byte[] text;
        int nodes;
        int texts;
        private int known;

        Store() {
            kind = new int[NODE_ROOM];
            one = new int[NODE_ROOM];
            two = new int[NODE_ROOM];
            next = new int[NODE_ROOM];
            key = new int[NODE_ROOM];
            text = new byte[TEXT_ROOM];
            texts = READ_AT;
            add(NULL, 0, 0);
            int begin = 0;
            for (int i = 0; i < KNOWN.length() && i < INFO_AT; i++) {
                char sign = KNOWN.charAt(i);
                text[i] = (byte) sign;
                if (sign == ' ') {
                    add(NAME, begin, i - begin);
                    begin = i + 1;
                }
            }
            known = nodes;
        }

        void clear() {
            nodes = known;
            texts = READ_AT;
        }

        /** Everything that was made since there were so many goes. */
        void release(int nodesLeft, int textsLeft) {
            nodes = nodesLeft;
            texts = textsLeft;
        }

        /** Whether a change still has room: the most that one can need is kept free for it. */
        boolean hasRoom() {
            return nodes + 300 + READ_NODES <= NODE_ROOM;
        }

        int add(int what, int first, int second) {
            if (nodes < 0 || nodes >= kind.length) {
                return NONE;
            }
            int node = nodes;
            nodes++;
            kind[node] = what;
            one[node] = first;
            two[node] = second;
            next[node] = NONE;
            key[node] = NONE;
            return node;
        }

        boolean holds(int node) {
            return node >= 0 && node < nodes && node < kind.length;
        }

        int kindOf(int node) {
            return node >= 0 && node < nodes && node < kind.length ? kind[node] : NONE;
        }

        int oneOf(int node) {
            return node >= 0 && node < nodes && node < one.length ? one[node] : 0;
        }

        int twoOf(int node) {
            return node >= 0 && node < nodes && node < two.length ? two[node] : 0;
        }

        int nextOf(int node) {
            return node >= 0 && node < nodes && node < next.length ? next[node] : NONE;
        }

        int keyOf(int node) {
            return node >= 0 && node < nodes && node < key.length ? key[node] : NONE;
        }

        /** A node becomes another object, and stays where it is. */
        void become(int node, int what, int first, int second) {
            if (holds(node)) {
                kind[node] = what;
                one[node] = first;
                two[node] = second;
            }
        }

        void link(int node, int behind) {
            if (holds(node)) {
                next[node] = behind;
            }
        }

        void name(int node, int name) {
            if (holds(node)) {
                key[node] = name;
            }
        }

        /** Parts are told by a chain; where it begins and how many they are stands in the array or dict. */
        void setParts(int node, int first, int many) {
            if (holds(node)) {
                one[node] = first;
                two[node] = many;
            }
        }

        int firstPart(int node) {
            boolean has = node >= 0 && node < nodes && node < kind.length && (kind[node] == ARRAY || kind[node] == DICT);
            return has ? one[node] : NONE;
        }

        /** How many parts an array or dict has. */
        int parts(int node) {
            boolean has = node >= 0 && node < nodes && node < kind.length && (kind[node] == ARRAY || kind[node] == DICT);
            return has ? two[node] : 0;
        }

        int part(int node, int i) {
            if (i < 0 || i >= parts(node)) {
                return NONE;
            }
            int at = firstPart(node);
            for (int k = 0; k < i && at >= 0; k++) {
                at = nextOf(at);
            }
            return at;
        }

        /** A part comes behind the last one. */
        void append(int node, int part) {
            int last = part(node, parts(node) - 1);
            if (last < 0) {
                setParts(node, part, 1);
            } else {
                link(last, part);
                setParts(node, firstPart(node), parts(node) + 1);
            }
        }

        /** How many bytes a name or string has; NONE: it is none. */
        int letters(int node) {
            boolean has = node >= 0 && node < nodes && node < kind.length && (kind[node] == NAME || kind[node] == STRING);
            return has ? two[node] : NONE;
        }

        int letterOf(int node, int i) {
            if (i < 0 || i >= letters(node)) {
                return NONE;
            }
            int at = oneOf(node) + i;
            return at >= 0 && at < text.length ? text[at] & 255 : NONE;
        }

        boolean same(int a, int b) {
            if (a < 0 || b < 0 || a >= nodes || b >= nodes || a >= two.length || b >= two.length || two[a] != two[b]) {
                return false;
            }
            int from = one[a];
            int other = one[b];
            for (int i = 0; i < two[a]; i++) {
                if (from < 0 || other < 0 || from + i >= text.length || other + i >= text.length
                        || text[from + i] != text[other + i]) {
                    return false;
                }
            }
            return true;
        }

        boolean isName(int node, int name) {
            return kindOf(node) == NAME && same(node, name);
        }

        /** The entry of a dict as it stands there; NONE: it has none. */
        int entry(int dict, int name) {
            int at = kindOf(dict) == DICT ? oneOf(dict) : NONE;
            for (int i = parts(dict); i > 0 && at >= 0; i--) {
                if (same(keyOf(at), name)) {
                    return at;
                }
                at = nextOf(at);
            }
            return NONE;
        }

        /** The value of an entry that stands there itself as a whole; NONE: it does not, or is below 0. */
        int wholeEntry(int dict, int name) {
            int at = entry(dict, name);
            return kindOf(at) == WHOLE ? Math.max(NONE, oneOf(at)) : NONE;
        }

        /** Whether a node is a number of units. */
        boolean isNumber(int node) {
            int what = kindOf(node);
            return what == REAL || what == WHOLE && one[node] >= -32768 && one[node] <= 32767;
        }

        int units(int node) {
            return kindOf(node) == REAL ? oneOf(node) : oneOf(node) << 16;
        }

        /** Each of Info's four strings has a place of its own, so that a new one stands where the old was. */
        int infoPlace(int which) {
            return INFO_AT + which * INFO_TEXT;
        }
    }

    /** The objects by their numbers: where they stand, what they are, the decoded bytes of streams. */
    private static final class Table {
        static final int UNTOLD = 0;
        static final int FREE = 1;
        static final int AT = 2;
        static final int IN = 3;
        static final int NEW = 4;
        static final int NUMBERS = 200;
        static final int STREAM_BYTES = 40000;
        static final int LONGEST_ROW = 20;

        final Store store;
        final int[] how;
        final int[] place;
        final int[] generation;
        final int[] root;
        final int[] begin;
        final int[] length;
        final boolean[] changed;
        final boolean[] named;
        final byte[] bytes;
        int used;
        int limit;
        int readLimit;
        int catalog;
        int info;

        Table(Store store) {
            this.store = store;
            how = new int[NUMBERS];
            place = new int[NUMBERS];
            generation = new int[NUMBERS];
            root = new int[NUMBERS];
            begin = new int[NUMBERS];
            length = new int[NUMBERS];
            changed = new boolean[NUMBERS];
            named = new boolean[NUMBERS];
            bytes = new byte[STREAM_BYTES];
        }

        void clear() {
            for (int n = 0; n < NUMBERS; n++) {
                how[n] = UNTOLD;
                root[n] = NONE;
                begin[n] = NONE;
                length[n] = 0;
                changed[n] = false;
                named[n] = false;
            }
            how[0] = FREE;
            used = 0;
            limit = NUMBERS;
            catalog = 0;
            info = 0;
        }

        /** What an entry of a section tells, if no newer one told of that object. */
        void tell(int n, int what, int first, int second) {
            if (n > 0 && n < NUMBERS && how[n] == UNTOLD) {
                how[n] = what;
                place[n] = first;
                generation[n] = second;
            }
        }

        /** The newest Size is known: from there on, and where nothing was told, all is free. */
        void close(int size) {
            limit = Math.min(size, NUMBERS);
            readLimit = limit;
            for (int n = 0; n < NUMBERS; n++) {
                if (n >= limit || how[n] == UNTOLD) {
                    how[n] = FREE;
                }
            }
        }

        boolean isFree(int n) {
            return n <= 0 || n >= limit || n >= how.length || how[n] == FREE;
        }

        int howOf(int n) {
            return isFree(n) ? FREE : how[n];
        }

        int placeOf(int n) {
            return isFree(n) ? 0 : place[n];
        }

        int generationOf(int n) {
            return isFree(n) ? 0 : generation[n];
        }

        int rootOf(int n) {
            return n <= 0 || n >= limit || n >= root.length || how[n] == FREE ? NONE : root[n];
        }

        void setRoot(int n, int node) {
            if (!isFree(n)) {
                root[n] = node;
            }
        }

        /** An object that was in an object stream was read; what told its place there is its generation no more. */
        void settle(int n, int node) {
            if (!isFree(n)) {
                root[n] = node;
                generation[n] = 0;
            }
        }

        boolean isStream(int n) {
            return n > 0 && n < limit && n < begin.length && how[n] != FREE && begin[n] >= 0;
        }

        int lengthOf(int n) {
            return isStream(n) ? length[n] : 0;
        }

        int beginOf(int n) {
            return isStream(n) ? begin[n] : 0;
        }

        int byteOf(int n, int i) {
            if (!isStream(n) || i < 0 || i >= length[n]) {
                return NONE;
            }
            int at = begin[n] + i;
            return at >= 0 && at < bytes.length ? bytes[at] & 255 : NONE;
        }

        boolean fits(int many) {
            return many >= 0 && used + many <= bytes.length;
        }

        /** Object n is a stream of these bytes; false: there are too many together. */
        boolean setStream(int n, byte[] from, int many) {
            if (isFree(n) || many < 0 || many > from.length || used < 0 || used + many > bytes.length) {
                return false;
            }
            System.arraycopy(from, 0, bytes, used, many);
            begin[n] = used;
            length[n] = many;
            used += many;
            return true;
        }

        /** The number of the object to which a row of references leads at last; 0: it is NULL, or no reference. */
        int target(int node) {
            int at = node;
            int n = 0;
            for (int i = 0; i <= LONGEST_ROW; i++) {
                if (at < 0 || at >= store.nodes || at >= store.kind.length || store.kind[at] != Store.REFERENCE) {
                    return n;
                }
                n = store.one[at];
                if (n <= 0 || n >= limit || n >= root.length || how[n] == FREE || generation[n] != store.two[at]) {
                    return 0;
                }
                at = root[n];
            }
            return 0;
        }

        /** What a node is, told through references; the null node where there is nothing. */
        int value(int node) {
            if (!store.holds(node)) {
                return Store.NULL;
            }
            return store.kindOf(node) == Store.REFERENCE ? Math.max(0, rootOf(target(node))) : node;
        }

        /** What the entry of a dict is, told through references. */
        int entry(int dict, int name) {
            return value(store.entry(dict, name));
        }

        /** The dict that a node is, told through references; NONE: it is none, or a stream. */
        int dict(int node) {
            int at = value(node);
            return store.kindOf(at) == Store.DICT && !isStream(target(node)) ? at : NONE;
        }

        /** Copies a stream's bytes to a place in a row, as far as it goes. */
        void copy(int n, byte[] into, int at) {
            int many = at < 0 ? 0 : Math.min(lengthOf(n), into.length - at);
            int from = beginOf(n);
            if (many > 0 && from + many <= bytes.length) {
                System.arraycopy(bytes, from, into, at, many);
            }
        }

        /** Which numbers references name in what was read from one node on to another. */
        void nameAll(int from, int to) {
            for (int node = from; node < to; node++) {
                int n = store.oneOf(node);
                if (store.kindOf(node) == Store.REFERENCE && n >= 0 && n < NUMBERS) {
                    named[n] = true;
                }
            }
        }

        /** The number that a new object gets; NONE: Size would be too great. */
        int spare() {
            for (int n = Math.max(limit, 1); n < NUMBERS; n++) {
                if (!named[n]) {
                    return n;
                }
            }
            return NONE;
        }

        void make(int n, int node) {
            if (n >= limit && n > 0 && n < NUMBERS) {
                limit = n + 1;
                how[n] = NEW;
                generation[n] = 0;
                root[n] = node;
                changed[n] = true;
            }
        }

        void touch(int n) {
            if (!isFree(n)) {
                changed[n] = true;
            }
        }

        boolean isChanged(int n) {
            return !isFree(n) && changed[n];
        }

        int changes() {
            int many = 0;
            for (int n = 1; n < NUMBERS; n++) {
                if (isChanged(n)) {
                    many++;
                }
            }
            return many;
        }
    }

    /**
     * Reads tokens and objects from a window of bytes. The first fault is kept with its place, which for
     * tokens is counted from the window's beginning.
     */
    private static final class Parser {
        static final int TOKEN = 4;
        static final int LIMIT = 5;
        private static final int WORD = NONE;
        private static final int OPEN_MOST = 20;
        private static final int DIGITS_MOST = 9;
        private static final int NAME_MOST = 60;
        private static final int STRING_MOST = 2000;
        // More than any number that is asked for, and less than a long holds.
        private static final long FAR = 1L << 40;

        final Store store;
        private final byte[] text;
        private byte[] bytes;
        private int from;
        int pos;
        int end;
        int fault;
        int place;
        private int firstNode;
        private int firstText;
        private boolean references;
        private int rowAt;
        private int rowEnd;
        private int rowKind;
        private int rowValue;
        private boolean rowBeyond;
        private boolean rowSigned;
        private int scanned;

        Parser(Store store) {
            this.store = store;
            text = store.text;
            bytes = new byte[0];
        }

        /** What is read from here on counts from nothing again. */
        void restart(boolean withReferences) {
            fault = 0;
            place = NONE;
            references = withReferences;
            countAnew();
        }

        void countAnew() {
            firstNode = store.nodes;
            firstText = store.texts;
        }

        void open(byte[] source, int first, int behind) {
            bytes = source;
            end = Math.max(0, Math.min(behind, source.length));
            from = Math.max(0, Math.min(first, end));
            pos = from;
            rowAt = NONE;
        }

        /** Keeps the first fault; answers NONE, for the caller to hand on. */
        int fail(int code, int where) {
            if (fault == 0) {
                fault = code;
                place = where;
            }
            return NONE;
        }

        private int failAt(int code, int where) {
            if (fault == 0) {
                fault = code;
                place = where - from;
            }
            return NONE;
        }

        int at(int p) {
            return p >= from && p < end && p < bytes.length ? bytes[p] & 255 : NONE;
        }

        static boolean isWhite(int c) {
            return c == 32 || c == 10 || c == 13 || c == 9 || c == 12 || c == 0;
        }

        static boolean isRegular(int c) {
            switch (c) {
                case NONE:
                case 0:
                case 9:
                case 10:
                case 12:
                case 13:
                case 32:
                case '(':
                case ')':
                case '<':
                case '>':
                case '[':
                case ']':
                case '{':
                case '}':
                case '/':
                case '%':
                    return false;
                default:
                    return true;
            }
        }

        static boolean isDigit(int c) {
            return c >= '0' && c <= '9';
        }

        /** The value of a hexadecimal digit; NONE: it is none. */
        static int hex(int c) {
            if (c >= '0' && c <= '9') {
                return c - '0';
            }
            if (c >= 'A' && c <= 'F') {
                return c - 'A' + 10;
            }
            return c >= 'a' && c <= 'f' ? c - 'a' + 10 : NONE;
        }

        void skipBlanks() {
            while (pos < end && isWhite(at(pos))) {
                pos++;
            }
        }

        /** Behind white bytes and remarks. */
        void skipWhite() {
            boolean remark = false;
            while (pos < end) {
                int c = at(pos);
                if (c == 10 || c == 13) {
                    remark = false;
                } else if (c == '%') {
                    remark = true;
                } else if (!remark && !isWhite(c)) {
                    return;
                }
                pos++;
            }
        }

        /** Behind one EOL; false: there is none. */
        boolean skipLineEnd() {
            int c = at(pos);
            if (c == 13) {
                pos += at(pos + 1) == 10 ? 2 : 1;
                return true;
            }
            if (c == 10) {
                pos++;
                return true;
            }
            return false;
        }

        /** Looks at the row of regular bytes at pos: what number it is, or that it is a word. */
        private void lookAtRow() {
            if (rowAt == pos) {
                return;
            }
            rowAt = pos;
            rowSigned = false;
            boolean minus = false;
            boolean word = false;
            int points = 0;
            int before = 0;
            int behind = 0;
            long whole = 0;
            long part = 0;
            long scale = 1;
            int p = pos;
            for (; p < end; p++) {
                int c = at(p);
                if (isDigit(c) && points == 0) {
                    before++;
                    whole = Math.min(whole * 10 + (c - '0'), FAR);
                } else if (isDigit(c)) {
                    behind++;
                    part = behind > DIGITS_MOST ? part : part * 10 + (c - '0');
                    scale = behind > DIGITS_MOST ? scale : scale * 10;
                } else if (c == '.') {
                    points++;
                } else if (p == pos && (c == '+' || c == '-')) {
                    rowSigned = true;
                    minus = c == '-';
                } else if (isRegular(c)) {
                    word = true;
                } else {
                    break;
                }
            }
            rowEnd = p;
            rowKind = word || points > 1 || before + behind == 0 ? WORD : points == 0 ? Store.WHOLE : Store.REAL;
            if (points == 1) {
                whole = whole * 65536 + (part * 131072 + scale) / Math.max(1, 2 * scale);
            }
            long value = minus ? -whole : whole;
            rowValue = (int) value;
            rowBeyond = points == 1 && (before > DIGITS_MOST || behind > DIGITS_MOST)
                    || value < LEAST || value > GREATEST;
        }

        private boolean rowIs(String text) {
            if (rowEnd - pos != text.length()) {
                return false;
            }
            for (int i = 0; i < text.length(); i++) {
                if (at(pos + i) != text.charAt(i)) {
                    return false;
                }
            }
            return true;
        }

        /** Whether just this word stands at pos; it is gone behind then. */
        boolean wordHere(String text) {
            lookAtRow();
            if (!rowIs(text)) {
                return false;
            }
            pos = rowEnd;
            return true;
        }

        /** The same, behind white or not. */
        boolean word(String text) {
            skipWhite();
            lookAtRow();
            boolean here = rowIs(text);
            pos = here ? rowEnd : pos;
            return here;
        }

        /** A whole without a sign; NONE: there is none. */
        int unsigned() {
            skipWhite();
            lookAtRow();
            if (rowKind != Store.WHOLE || rowSigned || rowBeyond) {
                return NONE;
            }
            pos = rowEnd;
            return rowValue;
        }

        /** The number of digits that stand at pos, as long as can be; NONE: there are none. */
        long digits() {
            if (!isDigit(at(pos))) {
                return NONE;
            }
            long number = 0;
            while (pos < end && isDigit(at(pos))) {
                number = Math.min(number * 10 + (at(pos) - '0'), FAR);
                pos++;
            }
            return number;
        }

        /** The number of the row of digits that stands at pos; NONE: the row there is another one, and stays. */
        long rowOfDigits() {
            int start = pos;
            long number = digits();
            if (isRegular(at(pos))) {
                pos = start;
                return NONE;
            }
            return number;
        }

        /** A word of up to two bytes at pos, as one number; 0: another word; NONE: what stands there is none. */
        int operator() {
            if (!isRegular(at(pos))) {
                return NONE;
            }
            lookAtRow();
            if (rowKind != WORD || rowIs("null") || rowIs("true") || rowIs("false")) {
                return NONE;
            }
            int letters = rowEnd - pos;
            int op = letters == 1 ? at(pos) : letters == 2 ? at(pos) * 256 + at(pos + 1) : 0;
            pos = rowEnd;
            return op;
        }

        /** Behind the word stream: where its bytes begin; NONE: no line ends there. */
        int body() {
            if (at(pos) == 13 && at(pos + 1) == 10) {
                return pos + 2;
            }
            return at(pos) == 10 ? pos + 1 : NONE;
        }

        /** Whether a stream's bytes are there, with endstream and endobj behind them. */
        boolean closes(int body, int length) {
            if (body < 0 || length < 0 || length > end - body) {
                return false;
            }
            pos = body + length;
            return word("endstream") && word("endobj");
        }

        /** Reads an object, with so many arrays and dicts open around it: its node; NONE: there is a fault. */
        private int object(int depth) {
            skipWhite();
            int start = pos;
            switch (at(start)) {
                case '/':
                    return name();
                case '(':
                    return string();
                case '<':
                    return at(start + 1) == '<' ? compound(depth, true) : string();
                case '[':
                    return compound(depth, false);
                default:
                    return isRegular(at(start)) ? plain(start) : failAt(TOKEN, start);
            }
        }

        /** Makes a node; of a name or string that was scanned its bytes are kept. */
        private int make(int kind, int one, int two, int start) {
            int letters = kind == Store.NAME || kind == Store.STRING ? two : 0;
            if (store.nodes - firstNode >= Store.READ_NODES
                    || store.texts - firstText + letters > Store.READ_TEXT
                    || store.texts + letters > text.length) {
                return failAt(LIMIT, start);
            }
            int node = store.add(kind, one, two);
            if (node < 0) {
                return failAt(LIMIT, start);
            }
            store.texts += letters;
            return node;
        }

        /** A number, a reference, null or a truth. */
        private int plain(int start) {
            lookAtRow();
            int kind = rowKind;
            int value = rowValue;
            boolean signed = rowSigned;
            if (kind == WORD) {
                return literal(start);
            }
            if (rowBeyond) {
                return failAt(LIMIT, start);
            }
            pos = rowEnd;
            if (kind == Store.WHOLE && !signed && references) {
                int behind = pos;
                int generation = unsigned();
                if (generation >= 0 && word("R")) {
                    boolean told = value >= 1 && value < Table.NUMBERS && generation <= 65535;
                    return told ? make(Store.REFERENCE, value, generation, start) : failAt(LIMIT, start);
                }
                pos = behind;
            }
            return make(kind, value, 0, start);
        }

        private int literal(int start) {
            boolean truth = rowIs("true");
            if (truth || rowIs("false")) {
                pos = rowEnd;
                return make(Store.TRUTH, truth ? 1 : 0, 0, start);
            }
            if (rowIs("null")) {
                pos = rowEnd;
                return make(Store.NULL, 0, 0, start);
            }
            return failAt(TOKEN, start);
        }

        /** An array, or a dict. */
        private int compound(int depth, boolean ofEntries) {
            int start = pos;
            int node = depth < OPEN_MOST ? make(ofEntries ? Store.DICT : Store.ARRAY, NONE, 0, start) : NONE;
            if (node < 0) {
                return failAt(LIMIT, start);
            }
            pos += ofEntries ? 2 : 1;
            int last = NONE;
            for (int many = 0; many <= Store.READ_NODES; many++) {
                skipWhite();
                int at = pos;
                if (ofEntries ? at(at) == '>' && at(at + 1) == '>' : at(at) == ']') {
                    pos += ofEntries ? 2 : 1;
                    return node;
                }
                int key = !ofEntries ? NONE : at(at) == '/' ? name() : noKey(at);
                if (ofEntries && key >= 0 && isTwice(node, key)) {
                    return failAt(LIMIT, at);
                }
                int part = ofEntries && key < 0 ? NONE : object(depth + 1);
                if (part < 0) {
                    return NONE;
                }
                store.name(part, key);
                store.link(last, part);
                store.setParts(node, many == 0 ? part : store.oneOf(node), many + 1);
                last = part;
            }
            return NONE;
        }

        /** Whether a dict has an entry of that name; its hash stands where a part tells what is behind it. */
        private boolean isTwice(int dict, int key) {
            int hash = 0;
            for (int i = 0; i < store.twoOf(key); i++) {
                hash = hash * 31 + store.letterOf(key, i);
            }
            store.link(key, hash);
            int part = store.firstPart(dict);
            for (int i = store.parts(dict); i > 0 && part >= 0; i--) {
                int other = store.keyOf(part);
                if (store.nextOf(other) == hash && store.same(other, key)) {
                    return true;
                }
                part = store.nextOf(part);
            }
            return false;
        }

        /** Where an entry's name must stand, a number or string that is beyond is so; all else can't stand there. */
        private int noKey(int start) {
            int c = at(start);
            if (c == '(' || c == '<' && at(start + 1) != '<') {
                boolean beyond = (c == '(' ? scanRound() : scanHex()) && scanned > STRING_MOST;
                return failAt(beyond ? LIMIT : TOKEN, start);
            }
            lookAtRow();
            return failAt(rowKind != WORD && rowBeyond ? LIMIT : TOKEN, start);
        }

        /** Bytes of a name or string stand behind the texts that are kept already. */
        private void put(int letter) {
            int at = store.texts + scanned;
            if (scanned < STRING_MOST && at >= 0 && at < text.length) {
                text[at] = (byte) letter;
            }
            scanned++;
        }

        private int name() {
            int start = pos;
            scanned = 0;
            int p = start + 1;
            while (p < end && isRegular(at(p))) {
                int c = at(p);
                if (c == '#') {
                    int high = hex(at(p + 1));
                    int low = hex(at(p + 2));
                    c = high * 16 + low;
                    if (high < 0 || low < 0 || c == 0) {
                        return failAt(TOKEN, start);
                    }
                    p += 2;
                }
                put(c);
                p++;
            }
            pos = p;
            return scanned > NAME_MOST ? failAt(LIMIT, start) : make(Store.NAME, store.texts, scanned, start);
        }

        private int string() {
            int start = pos;
            boolean whole = at(start) == '(' ? scanRound() : scanHex();
            if (!whole) {
                return failAt(TOKEN, start);
            }
            return scanned > STRING_MOST ? failAt(LIMIT, start) : make(Store.STRING, store.texts, scanned, start);
        }

        private boolean scanHex() {
            int high = NONE;
            scanned = 0;
            pos++;
            while (pos < end) {
                int c = at(pos);
                int digit = hex(c);
                pos++;
                if (c == '>') {
                    if (high >= 0) {
                        put(high * 16);
                    }
                    return true;
                }
                if (digit < 0 && !isWhite(c)) {
                    return false;
                }
                if (digit >= 0 && high >= 0) {
                    put(high * 16 + digit);
                    high = NONE;
                } else if (digit >= 0) {
                    high = digit;
                }
            }
            return false;
        }

        private boolean scanRound() {
            int inside = 1;
            scanned = 0;
            pos++;
            while (pos < end) {
                int c = at(pos);
                pos++;
                if (c == '\\') {
                    scanEscape();
                } else if (c == 13) {
                    pos += at(pos) == 10 ? 1 : 0;
                    put(10);
                } else if (c == ')' && inside == 1) {
                    return true;
                } else {
                    inside += c == '(' ? 1 : c == ')' ? -1 : 0;
                    put(c);
                }
            }
            return false;
        }

        /** Behind a \ in a string. */
        private void scanEscape() {
            int c = at(pos);
            int byteMeant = escaped(c);
            if (byteMeant >= 0) {
                pos++;
                put(byteMeant);
            } else if (c >= '0' && c <= '7') {
                int code = 0;
                for (int i = 0; i < 3 && at(pos) >= '0' && at(pos) <= '7'; i++) {
                    code = code * 8 + (at(pos) - '0');
                    pos++;
                }
                put(code & 255);
            } else if (c == 13) {
                pos += at(pos + 1) == 10 ? 2 : 1;
            } else if (c == 10) {
                pos++;
            }
        }

        private static int escaped(int c) {
            switch (c) {
                case 'n':
                    return 10;
                case 'r':
                    return 13;
                case 't':
                    return 9;
                case 'b':
                    return 8;
                case 'f':
                    return 12;
                case '(':
                case ')':
                case '\\':
                    return c;
                default:
                    return NONE;
            }
        }
    }

    /** Decodes zlib streams. */
    private static final class Inflate {
        static final int MOST = 8000;
        private static final int LONGEST_CODE = 15;
        private static final byte[] ORDER = {16, 17, 18, 0, 8, 7, 9, 6, 10, 5, 11, 4, 12, 3, 13, 2, 14, 1, 15};
        private static final int[] LENGTHS = {3, 4, 5, 6, 7, 8, 9, 10, 11, 13, 15, 17, 19, 23, 27, 31, 35, 43, 51,
            59, 67, 83, 99, 115, 131, 163, 195, 227, 258};
        private static final byte[] LENGTH_BITS = {0, 0, 0, 0, 0, 0, 0, 0, 1, 1, 1, 1, 2, 2, 2, 2, 3, 3, 3, 3, 4, 4,
            4, 4, 5, 5, 5, 5, 0};
        private static final int[] DISTANCES = {1, 2, 3, 4, 5, 7, 9, 13, 17, 25, 33, 49, 65, 97, 129, 193, 257, 385,
            513, 769, 1025, 1537, 2049, 3073, 4097, 6145, 8193, 12289, 16385, 24577};
        private static final byte[] DISTANCE_BITS = {0, 0, 0, 0, 1, 1, 2, 2, 3, 3, 4, 4, 5, 5, 6, 6, 7, 7, 8, 8, 9, 9,
            10, 10, 11, 11, 12, 12, 13, 13};

        private final int[] sizes;
        private final int[] many;
        private final int[] codes;
        private final int[] farMany;
        private final int[] farCodes;
        private final int[] places;
        private byte[] in;
        private int pos;
        private int end;
        private byte[] out;
        private int written;
        private int literals;
        private int distances;
        private int held;
        private int heldBits;

        Inflate() {
            sizes = new int[320];
            many = new int[LONGEST_CODE + 1];
            codes = new int[288];
            farMany = new int[LONGEST_CODE + 1];
            farCodes = new int[32];
            places = new int[LONGEST_CODE + 1];
            in = new byte[0];
            out = in;
        }

        /** Decodes these bytes into a row: how many they are then; NONE: they are no such code, or too many. */
        int run(byte[] source, int from, int many, byte[] into) {
            in = source;
            out = into;
            pos = Math.max(0, from);
            end = Math.min(pos + Math.max(0, many), source.length);
            written = 0;
            held = 0;
            heldBits = 0;
            int method = bits(8);
            int flags = bits(8);
            if (flags < 0 || (method & 15) != 8 || method >> 4 > 7 || (flags & 32) != 0
                    || (method * 256 + flags) % 31 != 0) {
                return NONE;
            }
            int last = 0;
            for (int blocks = 0; blocks <= source.length * 8 && last == 0; blocks++) {
                last = bits(1);
                int type = bits(2);
                boolean went = false;
                if (type == 0) {
                    went = stored();
                } else if (type == 1) {
                    fixedCodes();
                    went = decode();
                } else if (type == 2) {
                    went = readCodes() && readSizes() && dynamicCodes() && decode();
                }
                if (last < 0 || !went) {
                    return NONE;
                }
            }
            return last == 1 && endsWell() ? written : NONE;
        }

        /** So many bits, at most 16, the first the lowest; NONE: there are no more. */
        private int bits(int need) {
            while (heldBits < need) {
                if (pos < 0 || pos >= end || pos >= in.length) {
                    return NONE;
                }
                held |= (in[pos] & 255) << heldBits;
                heldBits += 8;
                pos++;
            }
            int value = held & (1 << need) - 1;
            held >>>= need;
            heldBits -= need;
            return value;
        }

        private boolean write(int letter) {
            if (written < 0 || written >= MOST || written >= out.length) {
                return false;
            }
            out[written] = (byte) letter;
            written++;
            return true;
        }

        private void toWholeByte() {
            held = 0;
            heldBits = 0;
        }

        private boolean stored() {
            toWholeByte();
            int length = bits(16);
            int check = bits(16);
            if (length < 0 || check < 0 || length != (check ^ 65535)) {
                return false;
            }
            for (int i = 0; i < length; i++) {
                int letter = bits(8);
                if (letter < 0 || !write(letter)) {
                    return false;
                }
            }
            return true;
        }

        private void fixedCodes() {
            for (int i = 0; i < 288; i++) {
                sizes[i] = i < 144 ? 8 : i < 256 ? 9 : i < 280 ? 7 : 8;
            }
            build(many, codes, 0, 288);
            for (int i = 0; i < 30; i++) {
                sizes[i] = 5;
            }
            build(farMany, farCodes, 0, 30);
        }

        /** Makes codes of these sizes; answers what is left over, 0 of just enough, below 0 of too many. */
        private int build(int[] counts, int[] symbols, int from, int size) {
            Arrays.fill(counts, 0);
            for (int i = 0; i < size; i++) {
                counts[sizes[from + i] & LONGEST_CODE]++;
            }
            int left = 1;
            places[1] = 0;
            for (int length = 1; length <= LONGEST_CODE; length++) {
                left = left * 2 - counts[length];
                if (left < 0) {
                    return left;
                }
                if (length < LONGEST_CODE) {
                    places[length + 1] = places[length] + counts[length];
                }
            }
            for (int i = 0; i < size; i++) {
                int length = sizes[from + i] & LONGEST_CODE;
                if (length != 0 && places[length] < symbols.length) {
                    symbols[places[length]] = i;
                    places[length]++;
                }
            }
            return left;
        }

        /** The next symbol by these codes; NONE: there is none. */
        private int symbol(int[] counts, int[] symbols) {
            int code = 0;
            int first = 0;
            int index = 0;
            for (int length = 1; length <= LONGEST_CODE; length++) {
                if (heldBits == 0) {
                    if (pos < 0 || pos >= end || pos >= in.length) {
                        return NONE;
                    }
                    held = in[pos] & 255;
                    heldBits = 8;
                    pos++;
                }
                code |= held & 1;
                held >>>= 1;
                heldBits--;
                int here = counts[length];
                if (code - here < first) {
                    int at = index + code - first;
                    return at >= 0 && at < symbols.length ? symbols[at] : NONE;
                }
                index += here;
                first = first + here << 1;
                code <<= 1;
            }
            return NONE;
        }

        /** The codes by which the sizes of the others are told. */
        private boolean readCodes() {
            literals = bits(5) + 257;
            distances = bits(5) + 1;
            int told = bits(4) + 4;
            if (literals < 257 || literals > 286 || distances < 1 || distances > 30 || told < 4) {
                return false;
            }
            Arrays.fill(sizes, 0);
            for (int i = 0; i < told && i < ORDER.length; i++) {
                int size = bits(3);
                if (size < 0) {
                    return false;
                }
                sizes[ORDER[i]] = size;
            }
            return build(many, codes, 0, 19) == 0;
        }

        private boolean dynamicCodes() {
            if (sizes[256] == 0 || build(many, codes, 0, literals) != 0) {
                return false;
            }
            int left = build(farMany, farCodes, literals, distances);
            return left == 0 || left > 0 && (farMany[0] == distances || farMany[0] == distances - 1 && farMany[1] == 1);
        }

        private boolean readSizes() {
            int all = literals + distances;
            int at = 0;
            while (at < all && at < sizes.length) {
                int code = symbol(many, codes);
                if (code < 0) {
                    return false;
                }
                int repeat = 1;
                int size = code;
                if (code == 16) {
                    if (at == 0) {
                        return false;
                    }
                    size = sizes[at - 1];
                    repeat = 3 + bits(2);
                } else if (code == 17 || code == 18) {
                    size = 0;
                    repeat = code == 17 ? 3 + bits(3) : 11 + bits(7);
                }
                if (repeat == 2 || repeat == 10 && code == 18 || at + repeat > all) {
                    return false;
                }
                for (int i = 0; i < repeat && at < sizes.length; i++) {
                    sizes[at] = size;
                    at++;
                }
            }
            return true;
        }

        /** Literals and rows by the codes that are made, up to the block's end. */
        private boolean decode() {
            for (int i = 0; i <= MOST; i++) {
                int code = symbol(many, codes);
                if (code == 256) {
                    return true;
                }
                boolean went = code >= 0 && (code < 256 ? write(code) : row(code - 257));
                if (!went) {
                    return false;
                }
            }
            return false;
        }

        private boolean row(int kind) {
            if (kind < 0 || kind >= LENGTHS.length || kind >= LENGTH_BITS.length) {
                return false;
            }
            int more = bits(LENGTH_BITS[kind]);
            int far = symbol(farMany, farCodes);
            if (more < 0 || far < 0 || far >= DISTANCES.length || far >= DISTANCE_BITS.length) {
                return false;
            }
            int length = LENGTHS[kind] + more;
            int farMore = bits(DISTANCE_BITS[far]);
            int distance = DISTANCES[far] + farMore;
            if (farMore < 0 || distance > written) {
                return false;
            }
            for (int i = 0; i < length; i++) {
                int at = written - distance;
                if (at < 0 || at >= out.length || !write(out[at])) {
                    return false;
                }
            }
            return true;
        }

        private boolean endsWell() {
            toWholeByte();
            int sum = Writer.adler(out, 0, written);
            for (int shift = 24; shift >= 0; shift -= 8) {
                if (bits(8) != (sum >> shift & 255)) {
                    return false;
                }
            }
            return pos == end;
        }
    }

    /** Decodes streams by what their dicts say of filters. */
    private static final class Filters {
        static final int FILTER = 7;
        static final int DATA = 8;
        private static final int FILTERS_MOST = 3;
        private static final int COLUMNS_MOST = 200;

        private final Store store;
        private final Inflate inflate;
        private final byte[] even;
        private final byte[] odd;
        private final boolean[] flate;
        private final int[] parms;
        private int filters;
        byte[] result;
        int length;

        Filters(Store store) {
            this.store = store;
            inflate = new Inflate();
            even = new byte[Inflate.MOST];
            odd = new byte[Inflate.MOST];
            flate = new boolean[FILTERS_MOST];
            parms = new int[FILTERS_MOST];
            result = even;
        }

        /** Decodes these bytes into result: 0, or the fault. */
        int decode(int dict, byte[] source, int from, int many) {
            filters = 0;
            length = 0;
            result = even;
            boolean right = readNames(dict) && readParms(dict);
            for (int i = 0; i < filters && right; i++) {
                right = areRight(parms[i], flate[i]);
            }
            if (!right) {
                return FILTER;
            }
            if (from < 0 || many < 0 || many > source.length - from) {
                return DATA;
            }
            byte[] in = source;
            int begin = from;
            int left = many;
            for (int i = 0; i < filters && i < FILTERS_MOST; i++) {
                byte[] out = (i & 1) == 0 ? even : odd;
                left = flate[i] ? inflate.run(in, begin, left, out) : fromHex(in, begin, left, out);
                if (flate[i] && left >= 0 && columns(parms[i]) > 0) {
                    left = unpredict(out, left, columns(parms[i]));
                }
                if (left < 0) {
                    return DATA;
                }
                in = out;
                begin = 0;
            }
            if (filters == 0) {
                if (left > even.length) {
                    return DATA;
                }
                System.arraycopy(source, from, even, 0, left);
                in = even;
            }
            result = in;
            length = left;
            return 0;
        }

        private boolean readNames(int dict) {
            int entry = store.entry(dict, Store.FILTER);
            int kind = store.kindOf(entry);
            if (entry < 0) {
                return true;
            }
            if (kind == Store.NAME) {
                return readName(entry);
            }
            if (kind != Store.ARRAY || store.parts(entry) > FILTERS_MOST) {
                return false;
            }
            for (int i = 0; i < store.parts(entry); i++) {
                if (!readName(store.part(entry, i))) {
                    return false;
                }
            }
            return true;
        }

        private boolean readName(int node) {
            boolean isFlate = store.isName(node, Store.FLATE_DECODE);
            if (filters >= FILTERS_MOST || !isFlate && !store.isName(node, Store.ASCII_HEX_DECODE)) {
                return false;
            }
            flate[filters] = isFlate;
            parms[filters] = Store.NULL;
            filters++;
            return true;
        }

        private boolean readParms(int dict) {
            int entry = store.entry(dict, Store.DECODE_PARMS);
            int kind = store.kindOf(entry);
            if (entry < 0 || store.entry(dict, Store.FILTER) < 0 || kind == Store.NULL) {
                return true;
            }
            if (kind == Store.DICT && filters == 1) {
                parms[0] = entry;
            } else if (kind == Store.ARRAY && store.parts(entry) == filters) {
                for (int i = 0; i < filters && i < FILTERS_MOST; i++) {
                    parms[i] = store.part(entry, i);
                }
            } else {
                return false;
            }
            return true;
        }

        private boolean areRight(int node, boolean ofFlate) {
            int kind = store.kindOf(node);
            if (kind != Store.DICT) {
                return kind == Store.NULL;
            }
            int predictor = wholeOr(node, Store.PREDICTOR, 1);
            if (!ofFlate || predictor == 1) {
                return true;
            }
            int columns = wholeOr(node, Store.COLUMNS, 1);
            return predictor >= 10 && predictor <= 15 && columns >= 1 && columns <= COLUMNS_MOST
                    && wholeOr(node, Store.COLORS, 1) == 1 && wholeOr(node, Store.BITS_PER_COMPONENT, 8) == 8;
        }

        /** A whole of 0 or more that stands there itself; NONE: it is something else. */
        private int wholeOr(int dict, int name, int without) {
            int entry = store.entry(dict, name);
            if (entry < 0) {
                return without;
            }
            return store.kindOf(entry) == Store.WHOLE ? Math.max(NONE, store.oneOf(entry)) : NONE;
        }

        /** How many columns a predictor has; 0: there is no predictor. */
        private int columns(int node) {
            return wholeOr(node, Store.PREDICTOR, 1) >= 10 ? wholeOr(node, Store.COLUMNS, 1) : 0;
        }

        private static int fromHex(byte[] in, int from, int many, byte[] out) {
            int written = 0;
            int high = NONE;
            boolean ended = false;
            for (int i = from; i < from + many && i >= 0 && i < in.length; i++) {
                int c = in[i] & 255;
                int digit = Parser.hex(c);
                if (Parser.isWhite(c)) {
                    continue;
                }
                if (ended || digit < 0 && c != '>') {
                    return NONE;
                }
                ended = c == '>';
                if (high < 0 && !ended) {
                    high = digit;
                } else if (high >= 0) {
                    if (written >= out.length) {
                        return NONE;
                    }
                    out[written] = (byte) (high * 16 + Math.max(0, digit));
                    written++;
                    high = NONE;
                }
            }
            return ended ? written : NONE;
        }

        /** Takes a predictor back, in the same row of bytes: what is written never overtakes what is read. */
        private static int unpredict(byte[] row, int many, int columns) {
            int wide = columns + 1;
            if (columns < 1 || many < 0 || many > row.length || many % wide != 0) {
                return NONE;
            }
            int written = 0;
            for (int at = 0; at < many; at += wide) {
                int kind = row[at] & 255;
                if (kind > 4) {
                    return NONE;
                }
                for (int i = 0; i < columns; i++) {
                    int left = i > 0 ? row[written - 1] & 255 : 0;
                    int above = at > 0 ? row[written - columns] & 255 : 0;
                    int corner = i > 0 && at > 0 ? row[written - columns - 1] & 255 : 0;
                    row[written] = (byte) (row[at + 1 + i] + guess(kind, left, above, corner));
                    written++;
                }
            }
            return written;
        }

        private static int guess(int kind, int left, int above, int corner) {
            switch (kind) {
                case 1:
                    return left;
                case 2:
                    return above;
                case 3:
                    return (left + above) / 2;
                case 4:
                    int toLeft = Math.abs(above - corner);
                    int toAbove = Math.abs(left - corner);
                    int toCorner = Math.abs(left + above - 2 * corner);
                    if (toLeft <= toAbove && toLeft <= toCorner) {
                        return left;
                    }
                    return toAbove <= toCorner ? above : corner;
                default:
                    return 0;
            }
        }
    }

    /** Reads the sections of a file, the newest first. */
    private static final class Sections {
        static final int SECTION = 3;
        static final int REFUSED = 9;
        static final int MOST = 10;
        private static final int ENTRY_BYTES = 20;

        private final Parser parser;
        private final Store store;
        private final Table table;
        private final Filters filters;
        private final int[] begins;
        private final int[] wide;
        int begun;
        int trailer;
        int trailerFrom;
        int trailerTo;
        boolean inRows;
        private int highest;
        private int at;

        Sections(Parser parser, Table table, Filters filters) {
            this.parser = parser;
            this.table = table;
            this.filters = filters;
            store = table.store;
            begins = new int[MOST];
            wide = new int[3];
        }

        void clear() {
            begun = 0;
            trailer = NONE;
            inRows = false;
        }

        int newest() {
            return begun > 0 && begins.length > 0 ? begins[0] : NONE;
        }

        /** Reads the section that begins there: where an elder one begins; NONE: there is none, or a fault. */
        int read(int begin, byte[] file) {
            for (int i = 0; i < begun && i < MOST; i++) {
                if (begins[i] == begin) {
                    return parser.fail(SECTION, begin);
                }
            }
            if (begun >= MOST) {
                return parser.fail(Parser.LIMIT, Math.min(begin, parser.end));
            }
            if (begin < 0 || begin >= parser.end) {
                return parser.fail(SECTION, parser.end);
            }
            begins[begun] = begin;
            begun++;
            highest = NONE;
            parser.pos = begin;
            boolean rows = !parser.wordHere("xref");
            boolean went = rows ? headsRows(begin) : readTable(begin);
            int from = store.nodes;
            int dict = went ? parser.object(0) : NONE;
            if (dict < 0 || !(rows ? readRows(dict, begin, file) : store.kindOf(dict) == Store.DICT)) {
                return parser.fail(SECTION, begin);
            }
            if (begun == 1) {
                trailer = dict;
                trailerFrom = from;
                trailerTo = store.nodes;
                inRows = rows;
            }
            return readTrailer(dict, begin);
        }

        /** The rows of a table's entries, and the word trailer. */
        private boolean readTable(int begin) {
            for (int i = 0; i <= parser.end; i++) {
                parser.skipBlanks();
                long first = parser.rowOfDigits();
                if (first < 0 && i > 0) {
                    return parser.word("trailer");
                }
                parser.skipBlanks();
                long many = parser.rowOfDigits();
                if (first < 0 || many < 0) {
                    return false;
                }
                if (first + many > Table.NUMBERS) {
                    parser.fail(Parser.LIMIT, begin);
                    return false;
                }
                if (parser.at(parser.pos) == ' ') {
                    parser.pos++;
                }
                if (!parser.skipLineEnd() || !readEntries((int) first, (int) many)) {
                    return false;
                }
            }
            return false;
        }

        private boolean readEntries(int first, int many) {
            for (int k = 0; k < many; k++) {
                int start = parser.pos;
                if (!isEntry(start)) {
                    parser.fail(SECTION, start);
                    return false;
                }
                int place = (int) Math.min(parser.digits(), GREATEST);
                parser.pos = start + 11;
                int generation = (int) parser.digits();
                boolean free = parser.at(start + 17) == 'f';
                table.tell(first + k, free ? Table.FREE : Table.AT, place, generation);
                highest = Math.max(highest, first + k);
                parser.pos = start + ENTRY_BYTES;
            }
            return true;
        }

        private boolean isEntry(int start) {
            for (int i = 0; i < 16; i++) {
                int c = parser.at(start + i);
                if (i == 10 ? c != ' ' : !Parser.isDigit(c)) {
                    return false;
                }
            }
            int kind = parser.at(start + 17);
            int one = parser.at(start + 18);
            int two = parser.at(start + 19);
            return parser.at(start + 16) == ' ' && (kind == 'n' || kind == 'f')
                    && (one == 32 && (two == 13 || two == 10) || one == 13 && two == 10);
        }

        private boolean headsRows(int begin) {
            parser.pos = begin;
            int number = parser.unsigned();
            int generation = number < 0 ? NONE : parser.unsigned();
            return number >= 1 && number < Table.NUMBERS && generation == 0 && parser.word("obj");
        }

        /** What comes behind the dict of a row stream; a fault that is not told here is one of the section. */
        private boolean readRows(int dict, int begin, byte[] file) {
            if (store.kindOf(dict) != Store.DICT || !parser.word("stream")) {
                return false;
            }
            int body = parser.body();
            int length = store.wholeEntry(dict, Store.LENGTH);
            if (!parser.closes(body, length) || !store.isName(store.entry(dict, Store.TYPE), Store.XREF)) {
                return false;
            }
            int wrong = filters.decode(dict, file, body, length);
            if (wrong != 0) {
                parser.fail(wrong, begin);
                return false;
            }
            return readWidths(store.entry(dict, Store.W)) && readPairs(dict, begin);
        }

        private boolean readWidths(int node) {
            if (store.kindOf(node) != Store.ARRAY || store.parts(node) != wide.length) {
                return false;
            }
            for (int i = 0; i < wide.length; i++) {
                int part = store.part(node, i);
                if (store.kindOf(part) != Store.WHOLE || store.oneOf(part) < 0 || store.oneOf(part) > 4) {
                    return false;
                }
                wide[i] = store.oneOf(part);
            }
            return true;
        }

        private boolean readPairs(int dict, int begin) {
            at = 0;
            int index = store.entry(dict, Store.INDEX);
            if (index < 0) {
                int size = store.wholeEntry(dict, Store.SIZE);
                return size >= 0 && readPair(0, size, begin) && at == filters.length;
            }
            if (store.kindOf(index) != Store.ARRAY || store.parts(index) % 2 != 0) {
                return false;
            }
            int part = store.firstPart(index);
            for (int i = store.parts(index); i > 0 && part >= 0; i--) {
                if (store.kindOf(part) != Store.WHOLE || store.oneOf(part) < 0) {
                    return false;
                }
                part = store.nextOf(part);
            }
            part = store.firstPart(index);
            for (int i = store.parts(index); i > 0 && part >= 0; i -= 2) {
                int second = store.nextOf(part);
                if (!readPair(store.oneOf(part), store.oneOf(second), begin)) {
                    return false;
                }
                part = store.nextOf(second);
            }
            return at == filters.length;
        }

        private boolean readPair(int first, int many, int begin) {
            if ((long) first + many > Table.NUMBERS) {
                parser.fail(Parser.LIMIT, begin);
                return false;
            }
            for (int k = 0; k < many; k++) {
                if (at + wide[0] + wide[1] + wide[2] > filters.length) {
                    return false;
                }
                long kind = wide[0] == 0 ? 1 : number(wide[0]);
                long second = number(wide[1]);
                long third = number(wide[2]);
                if (kind > 2) {
                    return false;
                }
                // What is above all that can be asked for never fits, like the greatest whole itself.
                int place = (int) Math.min(second, GREATEST);
                int generation = third > GREATEST ? NONE : (int) third;
                table.tell(first + k, kind == 0 ? Table.FREE : kind == 1 ? Table.AT : Table.IN, place, generation);
                highest = Math.max(highest, first + k);
            }
            return true;
        }

        private long number(int bytes) {
            long value = 0;
            for (int i = 0; i < bytes; i++) {
                int letter = at >= 0 && at < filters.result.length ? filters.result[at] & 255 : 0;
                value = value * 256 + letter;
                at++;
            }
            return value;
        }

        /** What a trailer says: where an elder section begins; NONE: there is none, or a fault. */
        private int readTrailer(int dict, int begin) {
            if (store.entry(dict, Store.ENCRYPT) >= 0 || store.entry(dict, Store.XREF_STM) >= 0) {
                return parser.fail(REFUSED, begin);
            }
            int size = store.wholeEntry(dict, Store.SIZE);
            if (size > Table.NUMBERS) {
                return parser.fail(Parser.LIMIT, begin);
            }
            int prev = store.wholeEntry(dict, Store.PREV);
            if (size < 1 || highest >= size || prev < 0 && store.entry(dict, Store.PREV) >= 0) {
                return parser.fail(SECTION, begin);
            }
            return prev;
        }
    }

    /** Keeps the file, and reads its frame and its objects. */
    private static final class Loader {
        private static final int HEADER = 1;
        private static final int START = 2;
        private static final int OBJECT = 6;
        private static final int INSIDE_MOST = 200;
        private static final String HEAD = "%PDF-1.";
        private static final String STARTXREF = "startxref";
        private static final String END = "%%EOF";

        final byte[] file;
        int length;
        private final Parser parser;
        private final Store store;
        private final Table table;
        private final Filters filters;
        private final int[] waiting;
        private final int[] bodies;
        private final int[] dicts;
        private int waiters;

        Loader(Parser parser, Table table, Filters filters) {
            this.parser = parser;
            this.table = table;
            this.filters = filters;
            store = table.store;
            file = new byte[TAPE_ROOM];
            waiting = new int[Table.NUMBERS];
            bodies = new int[Table.NUMBERS];
            dicts = new int[Table.NUMBERS];
        }

        /** The tape becomes the file: where its newest section begins; NONE: there is a fault. */
        int begin(byte[] tape, int taped) {
            length = Math.max(0, Math.min(taped, Math.min(tape.length, file.length)));
            System.arraycopy(tape, 0, file, 0, length);
            store.clear();
            table.clear();
            waiters = 0;
            parser.restart(true);
            parser.open(file, 0, length);
            if (!passes(HEAD, HEADER)) {
                return NONE;
            }
            int version = parser.at(parser.pos);
            if (version < '0' || version > '7') {
                return parser.fail(HEADER, parser.pos);
            }
            int last = lastStart();
            if (last < 0) {
                return parser.fail(START, length);
            }
            parser.pos = last + STARTXREF.length();
            return readStart();
        }

        private int readStart() {
            if (!passesBlanks()) {
                return NONE;
            }
            int digitsAt = parser.pos;
            long number = parser.digits();
            if (number < 0 || number > GREATEST) {
                return parser.fail(START, digitsAt);
            }
            if (!passesBlanks() || !passes(END, START)) {
                return NONE;
            }
            parser.skipBlanks();
            return parser.pos == length ? (int) number : parser.fail(START, parser.pos);
        }

        /** Goes behind these bytes, or the fault is at the first that is another. */
        private boolean passes(String bytes, int fault) {
            for (int i = 0; i < bytes.length(); i++) {
                if (parser.at(parser.pos) != bytes.charAt(i)) {
                    parser.fail(fault, parser.pos);
                    return false;
                }
                parser.pos++;
            }
            return true;
        }

        private boolean passesBlanks() {
            int before = parser.pos;
            parser.skipBlanks();
            if (parser.pos == before) {
                parser.fail(START, before);
                return false;
            }
            return true;
        }

        private int lastStart() {
            for (int p = length - STARTXREF.length(); p >= 0; p--) {
                int same = 0;
                while (same < STARTXREF.length() && parser.at(p + same) == STARTXREF.charAt(same)) {
                    same++;
                }
                if (same == STARTXREF.length()) {
                    return p;
                }
            }
            return NONE;
        }

        private int clip(int place) {
            return place < 0 || place > length ? length : place;
        }

        private int failObject(int n) {
            return parser.fail(OBJECT, table.howOf(n) == Table.AT ? clip(table.placeOf(n)) : length);
        }

        /** Whether a stream waits for its bytes. */
        boolean isWaiting() {
            return waiters > 0;
        }

        /** Reads an object; of a stream what is ahead of its bytes, which wait then. */
        void readObject(int n) {
            boolean inside = table.howOf(n) == Table.IN;
            boolean found = inside ? findInside(n) : findPlaced(n);
            int node = found ? parser.object(0) : NONE;
            if (node >= 0 && inside) {
                table.settle(n, node);
            } else if (node >= 0) {
                readBehind(n, node);
            }
        }

        /** The least number that was not read, or that of the object stream which it is in; 0: none is left. */
        int nextUnread() {
            for (int n = 1; n < table.limit; n++) {
                if (!table.isFree(n) && table.rootOf(n) < 0) {
                    if (table.howOf(n) != Table.IN) {
                        return n;
                    }
                    int holder = table.placeOf(n);
                    if (table.howOf(holder) != Table.AT || table.generationOf(holder) != 0) {
                        return failObject(holder);
                    }
                    return table.rootOf(holder) < 0 ? holder : n;
                }
            }
            return 0;
        }

        private boolean findPlaced(int n) {
            parser.open(file, 0, length);
            parser.pos = clip(table.placeOf(n));
            int number = parser.unsigned();
            int generation = number < 0 ? NONE : parser.unsigned();
            if (number != n || generation < 0 || generation != table.generationOf(n) || !parser.word("obj")) {
                failObject(n);
                return false;
            }
            return true;
        }

        private void readBehind(int n, int node) {
            if (store.kindOf(node) == Store.DICT && parser.word("stream")) {
                int body = parser.body();
                if (body < 0 || waiters < 0 || waiters >= waiting.length) {
                    failObject(n);
                    return;
                }
                waiting[waiters] = n;
                bodies[waiters] = body;
                dicts[waiters] = node;
                waiters++;
            } else if (parser.word("endobj")) {
                table.setRoot(n, node);
            } else {
                failObject(n);
            }
        }

        private boolean waits(int n) {
            for (int i = 0; i < waiters && i < waiting.length; i++) {
                if (waiting[i] == n) {
                    return true;
                }
            }
            return false;
        }

        /** The bytes of the stream that waits last; the number of its length's object, if that was not read. */
        int readBody() {
            int last = waiters - 1;
            if (last < 0 || last >= waiting.length) {
                return 0;
            }
            int n = waiting[last];
            int told = store.entry(dicts[last], Store.LENGTH);
            if (store.kindOf(told) == Store.REFERENCE) {
                int other = store.oneOf(told);
                if (table.howOf(other) != Table.AT || table.generationOf(other) != store.twoOf(told) || waits(other)) {
                    return failObject(n);
                }
                if (table.rootOf(other) < 0) {
                    return other;
                }
                told = table.rootOf(other);
            }
            if (store.kindOf(told) != Store.WHOLE || !parser.closes(bodies[last], store.oneOf(told))) {
                return failObject(n);
            }
            int wrong = filters.decode(dicts[last], file, bodies[last], store.oneOf(told));
            table.setRoot(n, dicts[last]);
            if (wrong == 0 && !table.setStream(n, filters.result, filters.length)) {
                wrong = Filters.DATA;
            }
            if (wrong != 0) {
                return parser.fail(wrong, table.placeOf(n));
            }
            waiters--;
            return 0;
        }

        /** Goes to where an object stands in the bytes of an object stream. */
        private boolean findInside(int n) {
            int holder = table.placeOf(n);
            int dict = table.rootOf(holder);
            int many = store.wholeEntry(dict, Store.N);
            int first = store.wholeEntry(dict, Store.FIRST);
            boolean right = table.isStream(holder) && many >= 0 && many <= INSIDE_MOST && first >= 0
                    && store.isName(store.entry(dict, Store.TYPE), Store.OBJ_STM);
            int begin = table.beginOf(holder);
            int behind = begin + table.lengthOf(holder);
            parser.open(table.bytes, begin, behind);
            long place = NONE;
            for (int i = 0; i < many && right; i++) {
                int number = parser.unsigned();
                int offset = number < 0 ? NONE : parser.unsigned();
                right = offset >= 0;
                if (i == table.generationOf(n) && number == n) {
                    place = (long) begin + first + offset;
                }
            }
            if (!right || place < 0) {
                failObject(holder);
                return false;
            }
            parser.pos = (int) Math.min(place, behind);
            return true;
        }
    }

    /** The tree of pages: its leaves are the pages, from the left. */
    private static final class Tree {
        static final int WRONG = 10;
        static final int PAGES_MOST = 60;
        static final int CONTENT_BYTES = 40000;
        private static final int DEEPEST_NODE = 20;

        private final Parser parser;
        private final Table table;
        private final Store store;
        private final int[] leaf;
        private final int[] above;
        private final boolean[] met;
        private final byte[] nowhere;
        int leaves;
        int first;

        Tree(Parser parser, Table table) {
            this.parser = parser;
            this.table = table;
            store = table.store;
            leaf = new int[PAGES_MOST];
            above = new int[Table.NUMBERS];
            met = new boolean[Table.NUMBERS];
            nowhere = new byte[0];
        }

        /** Reads the document that a trailer tells of. */
        void read(int trailer) {
            leaves = 0;
            for (int n = 0; n < Table.NUMBERS; n++) {
                above[n] = 0;
                met[n] = false;
            }
            int root = store.entry(trailer, Store.ROOT);
            int catalog = table.dict(root);
            table.catalog = table.target(root);
            if (catalog < 0 || table.catalog == 0) {
                parser.fail(WRONG, 0);
                return;
            }
            int pages = store.entry(catalog, Store.PAGES);
            first = table.target(pages);
            if (!store.isName(table.entry(catalog, Store.TYPE), Store.CATALOG) || first == 0
                    || table.dict(pages) < 0) {
                parser.fail(WRONG, table.catalog);
                return;
            }
            visit(first, 0, 1);
            int info = store.entry(trailer, Store.INFO);
            table.info = table.target(info);
            if (info >= 0 && (table.info == 0 || table.dict(info) < 0)) {
                parser.fail(WRONG, 0);
            }
        }

        /** Goes through a node or page and all below it: how many pages those are; NONE: there is a fault. */
        private int visit(int n, int from, int depth) {
            if (n <= 0 || n >= met.length || met[n]) {
                return parser.fail(WRONG, from);
            }
            met[n] = true;
            above[n] = from;
            if (depth > DEEPEST_NODE) {
                return parser.fail(Parser.LIMIT, n);
            }
            int dict = table.rootOf(n);
            boolean page = from != 0 && store.isName(table.entry(dict, Store.TYPE), Store.PAGE);
            if (!looksRight(n, dict, page) || page && !takesPage(n)) {
                return parser.fail(WRONG, n);
            }
            if (page) {
                return 1;
            }
            int kids = table.entry(dict, Store.KIDS);
            if (store.kindOf(kids) != Store.ARRAY) {
                return parser.fail(WRONG, n);
            }
            int below = 0;
            int kid = store.firstPart(kids);
            for (int i = store.parts(kids); i > 0 && kid >= 0; i--) {
                int number = table.target(kid);
                if (number == 0 || table.dict(kid) < 0) {
                    return parser.fail(WRONG, n);
                }
                int more = visit(number, n, depth + 1);
                if (more < 0) {
                    return NONE;
                }
                below += more;
                kid = store.nextOf(kid);
            }
            int count = table.entry(dict, Store.COUNT);
            return store.kindOf(count) == Store.WHOLE && store.oneOf(count) == below ? below : parser.fail(WRONG, n);
        }

        /** Type, Parent, and what it may have of its own to hand down. */
        private boolean looksRight(int n, int dict, boolean page) {
            if (!page && !store.isName(table.entry(dict, Store.TYPE), Store.PAGES)) {
                return false;
            }
            int from = above[n];
            if (from != 0 && table.target(store.entry(dict, Store.PARENT)) != from) {
                return false;
            }
            int box = table.entry(dict, Store.MEDIA_BOX);
            if (store.kindOf(box) != Store.NULL && !isBox(box)) {
                return false;
            }
            int resources = store.entry(dict, Store.RESOURCES);
            if (store.kindOf(table.value(resources)) != Store.NULL && table.dict(resources) < 0) {
                return false;
            }
            int rotate = table.entry(dict, Store.ROTATE);
            return store.kindOf(rotate) == Store.NULL
                    || store.kindOf(rotate) == Store.WHOLE && store.oneOf(rotate) % 90 == 0;
        }

        private boolean isBox(int node) {
            if (store.kindOf(node) != Store.ARRAY || store.parts(node) != 4) {
                return false;
            }
            for (int i = 0; i < 4; i++) {
                if (!store.isNumber(table.value(store.part(node, i)))) {
                    return false;
                }
            }
            return true;
        }

        /** What only a page has; it is one more then. */
        private boolean takesPage(int n) {
            int bytes = attribute(n, Store.MEDIA_BOX) < 0 ? NONE : gather(n, nowhere);
            if (bytes < 0) {
                return false;
            }
            if (bytes > CONTENT_BYTES || leaves < 0 || leaves >= leaf.length) {
                parser.fail(Parser.LIMIT, n);
                return false;
            }
            leaf[leaves] = n;
            leaves++;
            return true;
        }

        /** The entry that a page has of itself, or the next one above that has it; NONE: none has. */
        int attribute(int page, int name) {
            int n = page;
            for (int i = 0; i <= DEEPEST_NODE && n > 0 && n < above.length; i++) {
                int entry = store.entry(table.rootOf(n), name);
                if (store.kindOf(table.value(entry)) != Store.NULL) {
                    return entry;
                }
                n = above[n];
            }
            return NONE;
        }

        int contentBytes(int page) {
            return Math.max(0, gather(page, nowhere));
        }

        /** Puts a page's contents there as far as they go: how many bytes they are; NONE: they are wrong. */
        int gather(int page, byte[] into) {
            int entry = store.entry(table.rootOf(page), Store.CONTENTS);
            int value = table.value(entry);
            if (store.kindOf(value) == Store.NULL) {
                return 0;
            }
            boolean many = store.kindOf(value) == Store.ARRAY;
            int piece = many ? store.firstPart(value) : entry;
            int all = 0;
            for (int i = many ? store.parts(value) : 1; i > 0; i--) {
                int n = table.target(piece);
                if (!table.isStream(n)) {
                    return NONE;
                }
                table.copy(n, into, all);
                all += table.lengthOf(n);
                if (i > 1) {
                    if (all < into.length) {
                        into[all] = 10;
                    }
                    all++;
                }
                piece = store.nextOf(piece);
            }
            return all;
        }

        boolean has(int k) {
            return k >= 0 && k < leaves && k < leaf.length;
        }

        int leafAt(int k) {
            return has(k) ? leaf[k] : 0;
        }

        int aboveOf(int n) {
            return n >= 0 && n < above.length ? above[n] : 0;
        }

        /** A page is page k now, with that node above it. */
        void addLeaf(int k, int n, int node) {
            if (leaves < 0 || leaves >= leaf.length || k < 0 || k > leaves || n <= 0 || n >= above.length) {
                return;
            }
            for (int i = leaves; i > k; i--) {
                leaf[i] = leaf[i - 1];
            }
            leaf[k] = n;
            leaves++;
            above[n] = node;
        }

        void dropLeaf(int k) {
            if (!has(k)) {
                return;
            }
            for (int i = k; i + 1 < leaves && i + 1 < leaf.length; i++) {
                leaf[i] = leaf[i + 1];
            }
            leaves--;
        }
    }

    /** Shows a page: goes through its contents, and keeps the glyphs. */
    private static final class Painter {
        private static final int OPERATOR = 11;
        private static final int ORDER = 12;
        private static final int NO_FONT = 13;
        private static final int FAR = 14;
        private static final int OPERANDS_MOST = 40;
        private static final int KEPT_MOST = 20;
        private static final int GLYPHS_MOST = 1500;
        private static final int ONE = 65536;
        private static final int GLYPH_NUMBERS = 5;

        // What an operator takes, where it isn't so many numbers.
        private static final int A_STRING = 7;
        private static final int PIECES = 8;
        private static final int NAME_AND_SIZE = 9;
        private static final int DASHES = 10;

        // Where in the state what q keeps stands, behind the six of the matrix.
        private static final int FONT = 6;
        private static final int FONT_OBJECT = 7;
        private static final int SIZE = 8;
        private static final int TC = 9;
        private static final int TW = 10;
        private static final int TL = 11;
        private static final int STATE = 12;

        private final Table table;
        private final Store store;
        private final Tree tree;
        private final Parser parser;
        private final byte[] bytes;
        private final int[] state;
        private final int[] kept;
        private final int[] text;
        private final int[] line;
        private final int[] given;
        private final int[] shown;
        private final int[] widths;
        private final int[] operands;
        private final int[] glyph;
        private int waiting;
        private int keeps;
        private boolean inText;
        private int page;
        int glyphs;

        Painter(Table table, Tree tree) {
            this.table = table;
            this.tree = tree;
            store = table.store;
            parser = new Parser(store);
            bytes = new byte[Tree.CONTENT_BYTES];
            state = new int[STATE];
            kept = new int[STATE * KEPT_MOST];
            text = new int[6];
            line = new int[6];
            given = new int[6];
            shown = new int[6];
            widths = new int[256];
            operands = new int[OPERANDS_MOST];
            glyph = new int[GLYPHS_MOST * GLYPH_NUMBERS];
        }

        void forget() {
            glyphs = 0;
        }

        int wrong() {
            return parser.fault;
        }

        int wrongAt() {
            return parser.place;
        }

        int glyphAt(int i, int what) {
            if (i < 0 || i >= glyphs || what < 0 || what >= GLYPH_NUMBERS) {
                return NONE;
            }
            int at = i * GLYPH_NUMBERS + what;
            return at < glyph.length ? glyph[at] : NONE;
        }

        /** Shows a page; what is read of its contents is let go again. */
        void paint(int number) {
            int nodes = store.nodes;
            int texts = store.texts;
            page = number;
            glyphs = 0;
            waiting = 0;
            keeps = 0;
            inText = false;
            Arrays.fill(state, 0);
            state[0] = ONE;
            state[3] = ONE;
            state[FONT] = NONE;
            parser.restart(false);
            int length = Math.min(tree.gather(page, bytes), bytes.length);
            parser.open(bytes, 0, length);
            parser.skipWhite();
            for (int i = 0; i < length && parser.pos < length && parser.fault == 0; i++) {
                int at = parser.pos;
                int op = parser.operator();
                if (op >= 0) {
                    operate(op, at);
                    store.release(nodes, texts);
                    waiting = 0;
                    parser.countAnew();
                } else if (waiting >= operands.length) {
                    parser.fail(OPERATOR, at);
                } else {
                    operands[waiting] = parser.object(0);
                    waiting++;
                }
                parser.skipWhite();
            }
            if (inText || keeps > 0) {
                parser.fail(ORDER, length);
            }
            store.release(nodes, texts);
            glyphs = parser.fault == 0 ? glyphs : 0;
        }

        private void operate(int op, int at) {
            int form = form(op);
            int wrong = !fits(form) ? OPERATOR : !isInOrder(op) ? ORDER : !findsFont(form) ? NO_FONT : 0;
            if (wrong == 0) {
                wrong = form == A_STRING || form == PIECES ? showText(op, form) : work(op);
            }
            if (wrong != 0) {
                parser.fail(wrong, at);
            }
        }

        /** What an operator takes: up to six numbers, or one of the forms above; NONE: it is none. */
        private static int form(int op) {
            switch (op) {
                case 'q': case 'Q': case 'h': case 'S': case 's': case 'f': case 'F': case 'B': case 'b': case 'n':
                case 'W': case 'B' * 256 + 'T': case 'E' * 256 + 'T': case 'T' * 256 + '*': case 'f' * 256 + '*':
                case 'B' * 256 + '*': case 'b' * 256 + '*': case 'W' * 256 + '*':
                    return 0;
                case 'w': case 'J': case 'j': case 'M': case 'i': case 'g': case 'G':
                case 'T' * 256 + 'c': case 'T' * 256 + 'w': case 'T' * 256 + 'L':
                    return 1;
                case 'm': case 'l': case 'T' * 256 + 'd': case 'T' * 256 + 'D':
                    return 2;
                case 'r' * 256 + 'g': case 'R' * 256 + 'G':
                    return 3;
                case 'v': case 'y': case 'k': case 'K': case 'r' * 256 + 'e':
                    return 4;
                case 'c': case 'c' * 256 + 'm': case 'T' * 256 + 'm':
                    return 6;
                case '\'': case 'T' * 256 + 'j':
                    return A_STRING;
                case 'T' * 256 + 'J':
                    return PIECES;
                case 'T' * 256 + 'f':
                    return NAME_AND_SIZE;
                case 'd':
                    return DASHES;
                default:
                    return NONE;
            }
        }

        private int operand(int i) {
            return i >= 0 && i < waiting && i < operands.length ? operands[i] : NONE;
        }

        private boolean fits(int form) {
            int first = store.kindOf(operand(0));
            switch (form) {
                case NONE:
                    return false;
                case A_STRING:
                    return waiting == 1 && first == Store.STRING;
                case PIECES:
                    return waiting == 1 && first == Store.ARRAY && arePieces(operand(0));
                case NAME_AND_SIZE:
                    return waiting == 2 && first == Store.NAME && store.isNumber(operand(1));
                case DASHES:
                    return waiting == 2 && first == Store.ARRAY && store.isNumber(operand(1));
                default:
                    return areNumbers(form);
            }
        }

        private boolean areNumbers(int many) {
            for (int i = 0; i < waiting; i++) {
                if (!store.isNumber(operand(i))) {
                    return false;
                }
            }
            return waiting == many;
        }

        private boolean arePieces(int array) {
            int part = store.firstPart(array);
            for (int i = store.parts(array); i > 0; i--) {
                if (store.kindOf(part) != Store.STRING && !store.isNumber(part)) {
                    return false;
                }
                part = store.nextOf(part);
            }
            return true;
        }

        private boolean isInOrder(int op) {
            switch (op) {
                case 'q':
                    return !inText && keeps < KEPT_MOST;
                case 'Q':
                    return !inText && keeps > 0;
                case 'c' * 256 + 'm': case 'B' * 256 + 'T':
                    return !inText;
                case 'E' * 256 + 'T': case 'T' * 256 + 'd': case 'T' * 256 + 'D': case 'T' * 256 + 'm':
                case 'T' * 256 + '*': case 'T' * 256 + 'j': case '\'': case 'T' * 256 + 'J':
                    return inText;
                default:
                    return true;
            }
        }

        /** Whether a string that is shown has a font; or one is found by its name, which is the font from then on. */
        private boolean findsFont(int form) {
            if (form == NAME_AND_SIZE) {
                int fonts = table.dict(store.entry(resources(), Store.FONT));
                int entry = store.entry(fonts, operand(0));
                int font = table.dict(entry);
                boolean found = readFont(font);
                state[FONT] = font;
                state[FONT_OBJECT] = table.target(entry);
                return found;
            }
            boolean shows = form == A_STRING || form == PIECES && hasString(operand(0));
            return !shows || state[FONT] >= 0;
        }

        private int resources() {
            return table.dict(tree.attribute(page, Store.RESOURCES));
        }

        private boolean hasString(int array) {
            int part = store.firstPart(array);
            for (int i = store.parts(array); i > 0; i--) {
                if (store.kindOf(part) == Store.STRING) {
                    return true;
                }
                part = store.nextOf(part);
            }
            return false;
        }

        /** Fills the widths by a font; false: it is none. */
        private boolean readFont(int font) {
            int firstNode = table.entry(font, Store.FIRST_CHAR);
            int lastNode = table.entry(font, Store.LAST_CHAR);
            int array = table.entry(font, Store.WIDTHS);
            int first = store.oneOf(firstNode);
            int last = store.oneOf(lastNode);
            if (!store.isName(table.entry(font, Store.TYPE), Store.FONT) || store.kindOf(firstNode) != Store.WHOLE
                    || store.kindOf(lastNode) != Store.WHOLE || first < 0 || last < first || last >= widths.length
                    || store.kindOf(array) != Store.ARRAY || store.parts(array) != last - first + 1) {
                return false;
            }
            int part = store.firstPart(array);
            for (int code = 0; code < widths.length; code++) {
                widths[code] = 0;
                if (code >= first && code <= last) {
                    int width = table.value(part);
                    if (!store.isNumber(width)) {
                        return false;
                    }
                    widths[code] = store.units(width);
                    part = store.nextOf(part);
                }
            }
            return true;
        }

        /** All but the showing of strings: 0, or the fault. */
        private int work(int op) {
            int x = store.units(operand(0));
            switch (op) {
                case 'q':
                    System.arraycopy(state, 0, kept, keeps * STATE, STATE);
                    keeps++;
                    return 0;
                case 'Q':
                    keeps--;
                    System.arraycopy(kept, keeps * STATE, state, 0, STATE);
                    readFont(state[FONT]);
                    return 0;
                case 'c' * 256 + 'm':
                    giveOperands();
                    return multiply(given, state, state) ? 0 : FAR;
                case 'B' * 256 + 'T':
                    inText = true;
                    give(ONE, 0, 0, ONE, 0, 0);
                    System.arraycopy(given, 0, text, 0, 6);
                    System.arraycopy(given, 0, line, 0, 6);
                    return 0;
                case 'E' * 256 + 'T':
                    inText = false;
                    return 0;
                case 'T' * 256 + 'f':
                    state[SIZE] = store.units(operand(1));
                    return 0;
                case 'T' * 256 + 'c':
                    state[TC] = x;
                    return 0;
                case 'T' * 256 + 'w':
                    state[TW] = x;
                    return 0;
                case 'T' * 256 + 'L':
                    state[TL] = x;
                    return 0;
                default:
                    return workInText(op);
            }
        }

        private int workInText(int op) {
            int x = store.units(operand(0));
            int y = store.units(operand(1));
            switch (op) {
                case 'T' * 256 + 'd':
                    return nextLine(x, y) ? 0 : FAR;
                case 'T' * 256 + 'D':
                    state[TL] = -y;
                    return y != LEAST && nextLine(x, y) ? 0 : FAR;
                case 'T' * 256 + '*':
                    return state[TL] != LEAST && nextLine(0, -state[TL]) ? 0 : FAR;
                case 'T' * 256 + 'm':
                    giveOperands();
                    System.arraycopy(given, 0, text, 0, 6);
                    System.arraycopy(given, 0, line, 0, 6);
                    return 0;
                default:
                    return 0;
            }
        }

        private void giveOperands() {
            for (int i = 0; i < 6; i++) {
                given[i] = store.units(operand(i));
            }
        }

        private void give(int a, int b, int c, int d, int e, int f) {
            given[0] = a;
            given[1] = b;
            given[2] = c;
            given[3] = d;
            given[4] = e;
            given[5] = f;
        }

        private boolean nextLine(int x, int y) {
            give(ONE, 0, 0, ONE, x, y);
            boolean near = multiply(given, line, line);
            System.arraycopy(line, 0, text, 0, 6);
            return near;
        }

        private static long times(long a, long b) {
            return a * b + 32768 >> 16;
        }

        /** The product of two matrices goes into a third, which may be one of them; false: it is too far. */
        private static boolean multiply(int[] left, int[] right, int[] into) {
            if (left.length < 6 || right.length < 6 || into.length < 6) {
                return false;
            }
            int a = right[0];
            int b = right[1];
            int c = right[2];
            int d = right[3];
            boolean near = true;
            for (int row = 0; row < 6; row += 2) {
                int x = left[row];
                int y = left[row + 1];
                long first = times(x, a) + times(y, c) + (row == 4 ? right[4] : 0);
                long second = times(x, b) + times(y, d) + (row == 4 ? right[5] : 0);
                near = near && first == (int) first && second == (int) second;
                into[row] = (int) first;
                into[row + 1] = (int) second;
            }
            return near;
        }

        /** Shows a string, or the pieces of an array: 0, or the fault. */
        private int showText(int op, int form) {
            if (op == '\'' && workInText('T' * 256 + '*') != 0) {
                return FAR;
            }
            if (form == A_STRING) {
                return showString(operand(0));
            }
            int part = store.firstPart(operand(0));
            int wrong = 0;
            for (int i = store.parts(operand(0)); i > 0 && wrong == 0; i--) {
                if (store.kindOf(part) == Store.STRING) {
                    wrong = showString(part);
                } else {
                    wrong = advance(scaled(-(long) store.units(part))) ? 0 : FAR;
                }
                part = store.nextOf(part);
            }
            return wrong;
        }

        /** A thousandth of a number times the size. */
        private long scaled(long number) {
            return Math.floorDiv(number * state[SIZE] + 32768000, 65536000L);
        }

        private boolean advance(long far) {
            if (far != (int) far) {
                return false;
            }
            give(ONE, 0, 0, ONE, (int) far, 0);
            return multiply(given, text, text);
        }

        private int showString(int node) {
            for (int i = 0; i < store.letters(node); i++) {
                int code = store.letterOf(node, i);
                if (glyphs >= GLYPHS_MOST) {
                    return Parser.LIMIT;
                }
                if (code < 0 || code >= widths.length || !multiply(text, state, shown)) {
                    return FAR;
                }
                keepGlyph(code);
                long far = scaled(widths[code]) + state[TC] + (code == 32 ? state[TW] : 0);
                if (!advance(far)) {
                    return FAR;
                }
            }
            return 0;
        }

        private void keepGlyph(int code) {
            int at = glyphs * GLYPH_NUMBERS;
            if (at >= 0 && at + 4 < glyph.length) {
                glyph[at] = code;
                glyph[at + 1] = shown[4];
                glyph[at + 2] = shown[5];
                glyph[at + 3] = state[SIZE];
                glyph[at + 4] = state[FONT_OBJECT];
                glyphs++;
            }
        }
    }

    /** Changes the document; each change is refused before anything is done, or made whole. */
    private static final class Changes {
        private static final int SIDE_MOST = 14400;

        private final Table table;
        private final Store store;
        private final Tree tree;

        Changes(Table table, Tree tree) {
            this.table = table;
            this.tree = tree;
            store = table.store;
        }

        int insertPage(int k, int w, int h) {
            int n = table.spare();
            if (k < 0 || k > tree.leaves || w < 1 || w > SIDE_MOST || h < 1 || h > SIDE_MOST
                    || tree.leaves >= Tree.PAGES_MOST || n < 0 || !store.hasRoom()) {
                return NONE;
            }
            int page = store.add(Store.DICT, NONE, 0);
            set(page, Store.TYPE, Store.NAME, store.oneOf(Store.PAGE), store.twoOf(Store.PAGE));
            set(page, Store.PARENT, Store.NULL, 0, 0);
            int box = store.add(Store.ARRAY, NONE, 0);
            store.append(box, store.add(Store.WHOLE, 0, 0));
            store.append(box, store.add(Store.WHOLE, 0, 0));
            store.append(box, store.add(Store.WHOLE, w, 0));
            store.append(box, store.add(Store.WHOLE, h, 0));
            set(page, Store.MEDIA_BOX, Store.ARRAY, store.oneOf(box), store.twoOf(box));
            table.make(n, page);
            putIn(n, k);
            return n;
        }

        int deletePage(int k) {
            if (!tree.has(k) || !store.hasRoom()) {
                return NONE;
            }
            takeOut(k);
            return tree.leaves;
        }

        int movePage(int k, int to) {
            if (!tree.has(k) || to < 0 || to >= tree.leaves || !store.hasRoom()) {
                return NONE;
            }
            int n = tree.leafAt(k);
            takeOver(n, Store.MEDIA_BOX);
            takeOver(n, Store.RESOURCES);
            takeOver(n, Store.ROTATE);
            takeOut(k);
            putIn(n, to);
            return n;
        }

        int turnPage(int k, int degrees) {
            if (!tree.has(k) || degrees % 90 != 0 || degrees < -360 || degrees > 360 || !store.hasRoom()) {
                return NONE;
            }
            int n = tree.leafAt(k);
            set(table.rootOf(n), Store.ROTATE, Store.WHOLE, degrees, 0);
            table.touch(n);
            return n;
        }

        int setContents(int k, byte[] bytes, int many) {
            int n = table.spare();
            if (!tree.has(k) || n < 0 || !table.fits(many) || !store.hasRoom()) {
                return NONE;
            }
            table.make(n, store.add(Store.DICT, NONE, 0));
            table.setStream(n, bytes, many);
            int page = tree.leafAt(k);
            set(table.rootOf(page), Store.CONTENTS, Store.REFERENCE, n, 0);
            table.touch(page);
            return n;
        }

        int setInfo(int which, byte[] bytes, int many) {
            int n = table.info > 0 ? table.info : table.spare();
            if (which < 0 || which > 3 || many < 0 || many > Store.INFO_TEXT || n < 0 || !store.hasRoom()) {
                return NONE;
            }
            if (table.info == 0) {
                table.make(n, store.add(Store.DICT, NONE, 0));
                table.info = n;
            }
            int at = store.infoPlace(which);
            if (at + many <= store.text.length && many <= bytes.length) {
                System.arraycopy(bytes, 0, store.text, at, many);
            }
            set(table.rootOf(n), Store.TITLE + which, Store.STRING, at, many);
            table.touch(n);
            return n;
        }

        /** An entry becomes another object where it stands, or comes last. */
        private void set(int dict, int name, int kind, int one, int two) {
            int entry = store.entry(dict, name);
            if (entry >= 0) {
                store.become(entry, kind, one, two);
                return;
            }
            int part = store.add(kind, one, two);
            store.name(part, name);
            store.append(dict, part);
        }

        /** What a page has from above becomes its own; parts may be shared, as none of them is ever changed. */
        private void takeOver(int n, int name) {
            int dict = table.rootOf(n);
            int entry = tree.attribute(n, name);
            if (entry >= 0 && entry != store.entry(dict, name)) {
                set(dict, name, store.kindOf(entry), store.oneOf(entry), store.twoOf(entry));
            }
        }

        /** The Kids of a node as they stand in its own dict: where they were a reference, they are copied there. */
        private int ownKids(int node) {
            int entry = store.entry(table.rootOf(node), Store.KIDS);
            if (store.kindOf(entry) == Store.REFERENCE) {
                int from = table.value(entry);
                int part = store.firstPart(from);
                int many = store.parts(from);
                store.become(entry, Store.ARRAY, NONE, 0);
                for (int i = 0; i < many; i++) {
                    store.append(entry, store.add(store.kindOf(part), store.oneOf(part), store.twoOf(part)));
                    part = store.nextOf(part);
                }
            }
            return entry;
        }

        private int placeOf(int n, int kids) {
            int part = store.firstPart(kids);
            for (int i = 0; i < store.parts(kids); i++) {
                if (table.target(part) == n) {
                    return i;
                }
                part = store.nextOf(part);
            }
            return NONE;
        }

        private void putIn(int n, int k) {
            boolean last = k >= tree.leaves;
            int beside = tree.leafAt(last ? tree.leaves - 1 : k);
            int node = beside > 0 ? tree.aboveOf(beside) : tree.first;
            int kids = ownKids(node);
            int place = beside == 0 ? store.parts(kids) : placeOf(beside, kids) + (last ? 1 : 0);
            int part = store.add(Store.REFERENCE, n, table.generationOf(n));
            int before = store.part(kids, place - 1);
            int first = store.firstPart(kids);
            store.link(part, before < 0 ? first : store.nextOf(before));
            store.link(before, part);
            store.setParts(kids, before < 0 ? part : first, store.parts(kids) + 1);
            set(table.rootOf(n), Store.PARENT, Store.REFERENCE, node, table.generationOf(node));
            table.touch(n);
            tree.addLeaf(k, n, node);
            countUp(node, 1);
        }

        private void takeOut(int k) {
            int n = tree.leafAt(k);
            int node = tree.aboveOf(n);
            int kids = ownKids(node);
            int place = placeOf(n, kids);
            int part = store.part(kids, place);
            int before = store.part(kids, place - 1);
            int first = before < 0 ? store.nextOf(part) : store.firstPart(kids);
            store.link(before, store.nextOf(part));
            store.setParts(kids, first, store.parts(kids) - 1);
            tree.dropLeaf(k);
            countUp(node, -1);
        }

        /** The Count of a node and of all above becomes more or less. */
        private void countUp(int node, int more) {
            int n = node;
            for (int i = 0; i < Table.NUMBERS && n > 0; i++) {
                int dict = table.rootOf(n);
                int count = store.oneOf(table.entry(dict, Store.COUNT)) + more;
                set(dict, Store.COUNT, Store.WHOLE, count, 0);
                table.touch(n);
                n = tree.aboveOf(n);
            }
        }
    }

    /** Writes the document to the out, and codes streams. */
    private static final class Writer {
        private static final int OUT_ROOM = 30000;
        private static final int CODE_ROOM = 9216;
        private static final int DEEPEST_PART = 24;
        private static final int HASHES = 4096;
        private static final int LONGEST = 258;
        private static final int FARTHEST = 2000;
        private static final int ROW_BYTES = 7;

        private final Table table;
        private final Store store;
        final byte[] out;
        int written;
        private boolean over;
        private boolean renumbers;
        private final int[] number;
        private final int[] queue;
        private final int[] place;
        private int met;
        private final byte[] rows;
        private final byte[] code;
        private int coded;
        private int held;
        private int heldBits;
        private final int[] newest;
        private final int[] older;
        private int distance;

        Writer(Table table) {
            this.table = table;
            store = table.store;
            out = new byte[OUT_ROOM];
            number = new int[Table.NUMBERS];
            queue = new int[Table.NUMBERS];
            place = new int[Table.NUMBERS];
            rows = new byte[Table.NUMBERS * ROW_BYTES];
            code = new byte[CODE_ROOM];
            newest = new int[HASHES];
            older = new int[TAPE_ROOM];
            Arrays.fill(newest, NONE);
        }

        void clear() {
            written = 0;
            over = false;
        }

        int byteAt(int i) {
            return i >= 0 && i < written && i < out.length ? out[i] & 255 : NONE;
        }

        static int adler(byte[] bytes, int from, int many) {
            int low = 1;
            int high = 0;
            for (int i = Math.max(0, from); i < from + many && i < bytes.length; i++) {
                low = (low + (bytes[i] & 255)) % 65521;
                high = (high + low) % 65521;
            }
            return high << 16 | low;
        }

        private int finish() {
            if (over) {
                clear();
                return NONE;
            }
            return written;
        }

        // ---- the two ways to write

        int writeWhole() {
            renumbers = true;
            met = 0;
            Arrays.fill(number, 0);
            putText("%PDF-1.7\n");
            meet(table.catalog);
            meet(table.info);
            for (int i = 0; i < met && i + 1 < place.length && !over; i++) {
                place[i + 1] = written;
                putObject(queue[i], i + 1, 0);
            }
            int xref = written;
            putText("xref\n0 ");
            putNumber(met + 1);
            putText("\n0000000000 65535 f \n");
            for (int i = 1; i <= met && i < place.length; i++) {
                putEntry(place[i], 0);
            }
            putText("trailer\n<< /Size ");
            putNumber(met + 1);
            putRoots();
            putText(" >>\n");
            putEnd(xref);
            return finish();
        }

        /** Behind the bytes of the file, whose newest section is of rows or a table. */
        int writeMore(byte[] file, int length, int prev, boolean inRows) {
            renumbers = false;
            int own = table.spare();
            if (inRows && own < 0) {
                return NONE;
            }
            for (int i = 0; i < length && i < file.length; i++) {
                put(file[i]);
            }
            if (byteAt(written - 1) != 10) {
                put(10);
            }
            for (int n = 1; n < table.limit && n < place.length && !over; n++) {
                if (table.isChanged(n)) {
                    place[n] = written;
                    putObject(n, n, table.generationOf(n));
                }
            }
            int section = written;
            if (inRows && own < place.length) {
                place[own] = written;
                putRows(own, prev);
            } else {
                putTable(prev);
            }
            putEnd(section);
            return finish();
        }

        private void putEnd(int section) {
            putText("startxref\n");
            putNumber(section);
            putText("\n%%EOF\n");
        }

        private void putRoots() {
            putRoot(" /Root ", table.catalog);
            if (table.info > 0) {
                putRoot(" /Info ", table.info);
            }
        }

        private void putRoot(String entry, int n) {
            putText(entry);
            putNumber(renumbers ? meet(n) : n);
            put(' ');
            putNumber(renumbers ? 0 : table.generationOf(n));
            putText(" R");
        }

        /** Whether a new section has an entry of n: it is changed, or was passed over, or is the section's own. */
        private boolean isListed(int n, int own) {
            return n == own || table.isChanged(n) || n >= table.readLimit && table.isFree(n);
        }

        /** The first number from n on that a new section does not list, below a bound. */
        private int endOfRow(int n, int own, int bound) {
            int behind = n;
            while (behind < bound && isListed(behind, own)) {
                behind++;
            }
            return behind;
        }

        private void putTable(int prev) {
            putText("xref\n");
            int n = 1;
            boolean none = true;
            while (n < table.limit) {
                int behind = endOfRow(n, NONE, table.limit);
                if (behind > n) {
                    none = false;
                    putNumber(n);
                    put(' ');
                    putNumber(behind - n);
                    put(10);
                }
                for (int k = n; k < behind && k < place.length; k++) {
                    if (table.isChanged(k)) {
                        putEntry(place[k], table.generationOf(k));
                    } else {
                        putText("0000000000 65535 f \n");
                    }
                }
                n = behind + 1;
            }
            putText(none ? "0 0\ntrailer\n<< /Size " : "trailer\n<< /Size ");
            putNumber(table.limit);
            putRoots();
            putText(" /Prev ");
            putNumber(prev);
            putText(" >>\n");
        }

        private void putRows(int own, int prev) {
            putNumber(own);
            putText(" 0 obj\n<< /Type /XRef /Size ");
            putNumber(own + 1);
            putText(" /W [ 1 4 2 ] /Index [ ");
            int at = 0;
            int n = 1;
            while (n <= own) {
                int behind = endOfRow(n, own, own + 1);
                if (behind > n) {
                    putNumber(n);
                    put(' ');
                    putNumber(behind - n);
                    put(' ');
                }
                for (int k = n; k < behind; k++) {
                    at = layRow(at, k, own);
                }
                n = behind + 1;
            }
            put(']');
            putRoots();
            putText(" /Prev ");
            putNumber(prev);
            squeeze(rows, 0, at);
            putText(" ");
            putCode();
            putText("\nendobj\n");
        }

        private int layRow(int at, int n, int own) {
            boolean stands = n == own || table.isChanged(n);
            if (at < 0 || at + ROW_BYTES > rows.length || n < 0 || n >= place.length) {
                return at;
            }
            int where = stands ? place[n] : 0;
            int generation = stands ? table.generationOf(n) : 65535;
            rows[at] = (byte) (stands ? 1 : 0);
            rows[at + 1] = (byte) (where >> 24);
            rows[at + 2] = (byte) (where >> 16);
            rows[at + 3] = (byte) (where >> 8);
            rows[at + 4] = (byte) where;
            rows[at + 5] = (byte) (generation >> 8);
            rows[at + 6] = (byte) generation;
            return at + ROW_BYTES;
        }

        // ---- objects

        /** The number that an object gets as it is met; 0: there is none. */
        private int meet(int n) {
            if (n <= 0 || n >= number.length) {
                return 0;
            }
            if (number[n] == 0 && met >= 0 && met < queue.length) {
                queue[met] = n;
                met++;
                number[n] = met;
            }
            return number[n];
        }

        private void putObject(int n, int as, int generation) {
            putNumber(as);
            put(' ');
            putNumber(generation);
            putText(" obj\n");
            if (table.isStream(n)) {
                squeeze(table.bytes, table.beginOf(n), table.lengthOf(n));
                putText("<< ");
                putEntries(table.rootOf(n), 0, true);
                putCode();
            } else {
                putValue(table.rootOf(n), 0);
            }
            putText("\nendobj\n");
        }

        private void putValue(int node, int depth) {
            switch (store.kindOf(node)) {
                case Store.TRUTH:
                    putText(store.oneOf(node) == 1 ? "true" : "false");
                    return;
                case Store.WHOLE:
                    putNumber(store.oneOf(node));
                    return;
                case Store.REAL:
                    putReal(store.oneOf(node));
                    return;
                case Store.NAME:
                    putName(node);
                    return;
                case Store.STRING:
                    putString(node);
                    return;
                case Store.ARRAY:
                    putText("[ ");
                    putEntries(node, depth, false);
                    putText("]");
                    return;
                case Store.DICT:
                    putText("<< ");
                    putEntries(node, depth, false);
                    putText(">>");
                    return;
                case Store.REFERENCE:
                    putReference(node);
                    return;
                default:
                    putText("null");
            }
        }

        /** The parts of an array or dict, each with a blank behind it. */
        private void putEntries(int node, int depth, boolean ofStream) {
            int part = store.firstPart(node);
            for (int i = store.parts(node); i > 0 && depth < DEEPEST_PART && !over; i--) {
                int key = store.keyOf(part);
                boolean told = ofStream && (store.same(key, Store.LENGTH) || store.same(key, Store.FILTER)
                        || store.same(key, Store.DECODE_PARMS));
                if (key >= 0 && !told) {
                    putName(key);
                    put(' ');
                }
                if (!told) {
                    putValue(part, depth + 1);
                    put(' ');
                }
                part = store.nextOf(part);
            }
        }

        private void putReference(int node) {
            int n = renumbers ? table.target(node) : store.oneOf(node);
            if (renumbers && n == 0) {
                putText("null");
                return;
            }
            putNumber(renumbers ? meet(n) : n);
            put(' ');
            putNumber(renumbers ? 0 : store.twoOf(node));
            putText(" R");
        }

        /** Behind a stream's entries, what they tell of its code; then the code. */
        private void putCode() {
            putText("/Length ");
            putNumber(coded);
            putText(" /Filter /FlateDecode >>\nstream\n");
            for (int i = 0; i < coded && i < code.length; i++) {
                put(code[i]);
            }
            putText("\nendstream");
        }

        // ---- tokens

        private void put(int letter) {
            if (written < 0 || written >= out.length) {
                over = true;
                return;
            }
            out[written] = (byte) letter;
            written++;
        }

        private void putText(String text) {
            for (int i = 0; i < text.length(); i++) {
                put(text.charAt(i));
            }
        }

        private void putNumber(long value) {
            long left = value < 0 ? -value : value;
            if (value < 0) {
                put('-');
            }
            long scale = 1;
            while (scale <= 1000000000000000L && left / scale >= 10) {
                scale *= 10;
            }
            for (; scale > 0; scale /= 10) {
                put((int) ('0' + left / scale % 10));
            }
        }

        /** The digits of a number from that power of ten on. */
        private void putDigits(long value, long highest) {
            for (long scale = highest; scale > 0; scale /= 10) {
                put((int) ('0' + value / scale % 10));
            }
        }

        private void putEntry(int at, int generation) {
            putDigits(at, 1000000000L);
            put(' ');
            putDigits(generation, 10000);
            putText(" n \n");
        }

        private void putReal(int units) {
            long size = units < 0 ? -(long) units : units;
            long value = size * 100000 + 32768 >> 16;
            if (units < 0) {
                put('-');
            }
            putNumber(value / 100000);
            put('.');
            long behind = value % 100000;
            long scale = 10000;
            put((int) ('0' + behind / scale));
            behind %= scale;
            while (behind > 0 && scale > 1) {
                scale /= 10;
                put((int) ('0' + behind / scale));
                behind %= scale;
            }
        }

        private void putHex(int letter) {
            int high = letter >> 4 & 15;
            int low = letter & 15;
            put(high < 10 ? '0' + high : 'A' + high - 10);
            put(low < 10 ? '0' + low : 'A' + low - 10);
        }

        private void putName(int node) {
            put('/');
            for (int i = 0; i < store.letters(node); i++) {
                int letter = store.letterOf(node, i);
                if (letter < 33 || letter > 126 || letter == '#' || !Parser.isRegular(letter)) {
                    put('#');
                    putHex(letter);
                } else {
                    put(letter);
                }
            }
        }

        private void putString(int node) {
            boolean plain = true;
            for (int i = 0; i < store.letters(node); i++) {
                int letter = store.letterOf(node, i);
                plain = plain && letter >= 32 && letter <= 126 && letter != '(' && letter != ')' && letter != '\\';
            }
            put(plain ? '(' : '<');
            for (int i = 0; i < store.letters(node); i++) {
                int letter = store.letterOf(node, i);
                if (plain) {
                    put(letter);
                } else {
                    putHex(letter);
                }
            }
            put(plain ? ')' : '>');
        }

        // ---- the code of streams

        private void push(int bits, int many) {
            held |= bits << heldBits;
            heldBits += many;
            while (heldBits >= 8) {
                if (coded >= 0 && coded < code.length) {
                    code[coded] = (byte) held;
                    coded++;
                }
                held >>>= 8;
                heldBits -= 8;
            }
        }

        /** Codes stand with their highest bit first. */
        private void pushCode(int value, int many) {
            int turned = 0;
            for (int i = 0; i < many; i++) {
                turned = turned << 1 | value >> i & 1;
            }
            push(turned, many);
        }

        private void pushSymbol(int symbol) {
            if (symbol < 144) {
                pushCode(48 + symbol, 8);
            } else if (symbol < 256) {
                pushCode(400 + symbol - 144, 9);
            } else if (symbol < 280) {
                pushCode(symbol - 256, 7);
            } else {
                pushCode(192 + symbol - 280, 8);
            }
        }

        private void pushRow(int length) {
            int kind = Inflate.LENGTHS.length - 1;
            while (kind > 0 && Inflate.LENGTHS[kind] > length) {
                kind--;
            }
            pushSymbol(257 + kind);
            push(length - Inflate.LENGTHS[kind], Inflate.LENGTH_BITS[kind]);
            int far = Inflate.DISTANCES.length - 1;
            while (far > 0 && Inflate.DISTANCES[far] > distance) {
                far--;
            }
            pushCode(far, 5);
            push(distance - Inflate.DISTANCES[far], Inflate.DISTANCE_BITS[far]);
        }

        /** Codes these bytes into code. */
        private void squeeze(byte[] bytes, int from, int many) {
            coded = 0;
            held = 0;
            heldBits = 0;
            int end = Math.min(from + Math.min(many, older.length), bytes.length);
            push(120, 8);
            push(156, 8);
            push(3, 3);
            int at = from;
            while (at >= 0 && at < end) {
                int length = longest(bytes, from, at, end);
                if (length < 3) {
                    length = 1;
                    pushSymbol(bytes[at] & 255);
                } else {
                    pushRow(length);
                }
                for (int i = at; i < at + length; i++) {
                    remember(bytes, from, i, end);
                }
                at += length;
            }
            pushSymbol(256);
            push(0, (8 - heldBits) % 8);
            int sum = adler(bytes, from, many);
            for (int shift = 24; shift >= 0; shift -= 8) {
                push(sum >> shift & 255, 8);
            }
            for (int i = from; i < end; i++) {
                forget(bytes, i, end);
            }
        }

        /** A number for the three bytes that stand there; NONE: there are fewer. */
        private static int hash(byte[] bytes, int at, int end) {
            if (at < 0 || at + 2 >= end || at + 2 >= bytes.length) {
                return NONE;
            }
            return ((bytes[at] & 255) * 64 ^ (bytes[at + 1] & 255) * 8 ^ bytes[at + 2] & 255) & HASHES - 1;
        }

        private void remember(byte[] bytes, int from, int at, int end) {
            int hash = hash(bytes, at, end);
            int i = at - from;
            if (hash >= 0 && hash < newest.length && i >= 0 && i < older.length) {
                older[i] = newest[hash];
                newest[hash] = i;
            }
        }

        private void forget(byte[] bytes, int at, int end) {
            int hash = hash(bytes, at, end);
            if (hash >= 0 && hash < newest.length) {
                newest[hash] = NONE;
            }
        }

        /** How long the longest row is that stood before; its distance is kept. */
        private int longest(byte[] bytes, int from, int at, int end) {
            int hash = hash(bytes, at, end);
            int best = 0;
            int most = Math.min(LONGEST, end - at);
            int candidate = hash < 0 || hash >= newest.length ? NONE : newest[hash];
            for (int tries = 0; tries <= FARTHEST && candidate >= 0 && candidate < older.length; tries++) {
                int other = from + candidate;
                if (other >= at || at - other > FARTHEST || best >= most) {
                    break;
                }
                // What does not go on where the best one ends is no longer than that.
                int same = 0;
                while (bytes[other + best] == bytes[at + best] && same < most && bytes[other + same] == bytes[at + same]) {
                    same++;
                }
                if (same > best) {
                    best = same;
                    distance = at - other;
                }
                candidate = older[candidate];
            }
            return best;
        }
    }
}
