import java.util.Arrays;

/** Things that hold one another, written as a row of bytes and read again through a filter. */
public final class ThingStream {
    public static final int NONE = -1;

    private static final int NOT_THERE = -2;

    private static final int SHAPE_COUNT = 6;
    private static final int FIELDS_EACH = 4;
    private static final int NAME_COUNT = 10;
    private static final int KIND_COUNT = 5;
    private static final int LINK_KIND = 4;
    private static final int SLOTS_EACH = SHAPE_COUNT * FIELDS_EACH;
    private static final int MOST_WRITTEN = 24;

    private static final int FIRST_BYTE = 172;
    private static final int SECOND_BYTE = 237;
    private static final int TELLS_NONE = 112;
    private static final int TELLS_HANDLE = 113;
    private static final int TELLS_DESCRIPTION = 114;
    private static final int TELLS_RECORD = 115;
    private static final int TELLS_ROW = 117;

    private static final int LIMIT_BYTES = 0;
    private static final int LIMIT_LENGTH = 1;
    private static final int LIMIT_THINGS = 2;
    private static final int LIMIT_DEPTH = 3;
    private static final int MOST_BYTES = 1000;
    private static final int LONGEST_ROW = 5;
    private static final int MOST_READ = 40;
    private static final int DEEPEST = 10;
    private static final int[] HIGHEST_LIMITS = {MOST_BYTES, LONGEST_ROW, MOST_READ, DEEPEST};

    // 114, the number, the mark and the number of fields: no description has fewer bytes of its own,
    // so that a stream always ends before it has more descriptions than the reader has room for.
    private static final int LEAST_DESCRIPTION = 7;
    private static final int MOST_DESCRIPTIONS = MOST_BYTES / LEAST_DESCRIPTION;

    private final Side writing;
    private final Side reading;
    private final Bytes stream;
    private final Writer writer;
    private final Reader reader;

    public ThingStream() {
        writing = new Side(MOST_WRITTEN);
        reading = new Side(MOST_READ);
        stream = new Bytes();
        writer = new Writer(stream, writing);
        reader = new Reader(stream, reading);
    }

    public boolean shape(int side, int shape, int parent, int mark) {
        Side changed = sideToReshape(side);
        if (changed == null || shape < 0 || shape >= SHAPE_COUNT || parent < NONE || parent >= shape) {
            return false;
        }
        changed.shapes.begin(shape, shape, parent, mark);
        changed.held.removeAll();
        return true;
    }

    public boolean field(int side, int shape, int name, int kind) {
        Side changed = sideToReshape(side);
        if (changed == null || !changed.shapes.mayAddField(shape, name, kind)) {
            return false;
        }
        changed.shapes.addField(shape, name, kind);
        changed.held.removeAll();
        return true;
    }

    public int build(int shape) {
        if (!writing.shapes.has(shape) || writing.held.isFull()) {
            return NONE;
        }
        return writing.held.addRecord(shape, writing.shapes);
    }

    public int row(int length) {
        if (length < 0 || length > LONGEST_ROW || writing.held.isFull()) {
            return NONE;
        }
        return writing.held.addRow(length);
    }

    public boolean set(int thing, int shape, int name, long value) {
        int slot = writing.slotOf(thing, shape, name);
        if (slot == NONE) {
            return false;
        }
        int kind = writing.shapes.kindOf(shape, writing.shapes.fieldOf(shape, name));
        if (kind != LINK_KIND) {
            writing.held.values[slot] = cutToKind(value, kind);
            return true;
        }
        if (!writing.held.mayLinkTo(value)) {
            return false;
        }
        writing.held.values[slot] = value;
        return true;
    }

    public boolean link(int thing, int k, int to) {
        if (!writing.held.hasLink(thing, k) || !writing.held.mayLinkTo(to)) {
            return false;
        }
        writing.held.values[writing.held.firstSlot(thing) + k] = to;
        return true;
    }

    public int write(int thing) {
        if (!writing.held.has(thing)) {
            return NONE;
        }
        writer.begin();
        writer.writeValue(thing, 1);
        if (stream.overflowed) {
            stream.removeAll();
        }
        return stream.count;
    }

    public void clear() {
        writing.held.removeAll();
    }

    public int at(int k) {
        if (k == NONE) {
            return stream.count;
        }
        return stream.has(k) ? stream.bytes[k] : NONE;
    }

    public boolean put(int k, int b) {
        if (stream.has(k)) {
            stream.bytes[k] = b & 255;
            return true;
        }
        if (k != stream.count || stream.isFull()) {
            return false;
        }
        stream.append(b);
        return true;
    }

    public boolean cut(int n) {
        if (n < 0 || n > stream.count) {
            return false;
        }
        stream.count = n;
        return true;
    }

    public boolean limit(int what, int limit) {
        return reader.changeLimit(what, limit);
    }

    public int read() throws IllegalArgumentException, IllegalStateException, UnsupportedOperationException {
        reader.begin();
        reader.readValue(1);
        reader.finish();
        return reading.held.count;
    }

    public int position() {
        return reader.fault;
    }

    public int things(int side) {
        Side asked = sideOf(side);
        return asked == null ? NONE : asked.held.count;
    }

    public int thing(int side, int thing, int what) {
        Side asked = sideOf(side);
        if (asked == null || !asked.held.has(thing)) {
            return NOT_THERE;
        }
        if (what == 0) {
            return asked.held.shapes[thing];
        }
        return what == 1 ? asked.held.lengths[thing] : NOT_THERE;
    }

    public long get(int side, int thing, int shape, int name) {
        Side asked = sideOf(side);
        if (asked == null) {
            return 0;
        }
        int slot = asked.slotOf(thing, shape, name);
        return slot == NONE ? 0 : asked.held.values[slot];
    }

    public int goes(int side, int thing, int k) {
        Side asked = sideOf(side);
        if (asked == null || !asked.held.hasLink(thing, k)) {
            return NOT_THERE;
        }
        return (int) asked.held.values[asked.held.firstSlot(thing) + k];
    }

    private Side sideOf(int side) {
        if (side == 0) {
            return writing;
        }
        return side == 1 ? reading : null;
    }

    /** Things of side 0 keep their shapes from changing; those of side 1 go when a shape does. */
    private Side sideToReshape(int side) {
        return side == 0 && writing.held.count > 0 ? null : sideOf(side);
    }

    private static int bytesOfKind(int kind) {
        return 1 << (kind & 3);
    }

    private static long cutToKind(long value, int kind) {
        int shift = 64 - 8 * bytesOfKind(kind);
        return value << shift >> shift;
    }

    /** The shapes of a side, or the descriptions of a stream: both have parents, marks and fields. */
    private static final class Shapes {
        private final boolean[] there;
        private final int[] numbers;
        private final int[] parents;
        private final int[] marks;
        private final int[] fieldCounts;
        // FIELDS_EACH places for each shape, always in the order of a description.
        private final int[] names;
        private final int[] kinds;

        Shapes(int room) {
            there = new boolean[room];
            numbers = new int[room];
            parents = new int[room];
            marks = new int[room];
            fieldCounts = new int[room];
            names = new int[room * FIELDS_EACH];
            kinds = new int[room * FIELDS_EACH];
        }

        boolean has(int shape) {
            return shape >= 0 && shape < there.length && there[shape];
        }

        void begin(int shape, int number, int parent, int mark) {
            there[shape] = true;
            numbers[shape] = number;
            parents[shape] = parent;
            marks[shape] = mark;
            fieldCounts[shape] = 0;
        }

        boolean mayAddField(int shape, int name, int kind) {
            return has(shape) && fieldCounts[shape] < FIELDS_EACH
                && name >= 0 && name < NAME_COUNT && kind >= 0 && kind < KIND_COUNT
                && fieldOf(shape, name) == NONE;
        }

        void addField(int shape, int name, int kind) {
            int first = shape * FIELDS_EACH;
            int place = first + fieldCounts[shape];
            while (place > first && rank(names[place - 1], kinds[place - 1]) > rank(name, kind)) {
                names[place] = names[place - 1];
                kinds[place] = kinds[place - 1];
                place--;
            }
            names[place] = name;
            kinds[place] = kind;
            fieldCounts[shape]++;
        }

        /** Would a field with this name and kind stand behind all that the shape has? */
        boolean comesLast(int shape, int name, int kind) {
            int last = fieldCounts[shape] - 1;
            return last < 0 || rank(nameOf(shape, last), kindOf(shape, last)) < rank(name, kind);
        }

        /** Links stand behind all numbers, whatever their names are. */
        private static int rank(int name, int kind) {
            return kind == LINK_KIND ? NAME_COUNT + name : name;
        }

        /** The place of the field of that name among the shape's fields, or NONE. */
        int fieldOf(int shape, int name) {
            if (!has(shape)) {
                return NONE;
            }
            for (int k = 0; k < fieldCounts[shape]; k++) {
                if (nameOf(shape, k) == name) {
                    return k;
                }
            }
            return NONE;
        }

        int nameOf(int shape, int k) {
            return names[shape * FIELDS_EACH + k];
        }

        int kindOf(int shape, int k) {
            return kinds[shape * FIELDS_EACH + k];
        }

        /** A parent that is told of but not there ends the chain as no parent does. */
        int parentOf(int shape) {
            return has(parents[shape]) ? parents[shape] : NONE;
        }

        int chainLength(int shape) {
            int length = 0;
            int next = shape;
            while (next != NONE && length < SHAPE_COUNT) {
                length++;
                next = parentOf(next);
            }
            return length;
        }

        /** The shape of the chain that is so many parents up; up is below the chain's length. */
        int upTheChain(int shape, int up) {
            int found = shape;
            for (int k = 0; k < up && found != NONE; k++) {
                found = parentOf(found);
            }
            return found;
        }

        boolean chainHas(int shape, int wanted) {
            int next = shape;
            for (int k = 0; k < SHAPE_COUNT && next != NONE; k++) {
                if (next == wanted) {
                    return true;
                }
                next = parentOf(next);
            }
            return false;
        }
    }

    /** Records and rows, numbered from 0 on. */
    private static final class Things {
        private final int[] shapes;
        private final int[] lengths;
        // SLOTS_EACH for each thing: a record's by shape and field, a row's links from the first on.
        private final long[] values;
        private int count;

        Things(int room) {
            shapes = new int[room];
            lengths = new int[room];
            values = new long[room * SLOTS_EACH];
        }

        boolean has(int thing) {
            return thing >= 0 && thing < count;
        }

        boolean isFull() {
            return count >= shapes.length;
        }

        boolean isRecord(int thing) {
            return has(thing) && shapes[thing] != NONE;
        }

        boolean hasLink(int thing, int k) {
            return has(thing) && k >= 0 && k < lengths[thing];
        }

        boolean mayLinkTo(long to) {
            return to >= NONE && to < count;
        }

        int firstSlot(int thing) {
            return thing * SLOTS_EACH;
        }

        int slotOfField(int thing, int shape, int k) {
            return firstSlot(thing) + shape * FIELDS_EACH + k;
        }

        void removeAll() {
            count = 0;
        }

        int addRow(int length) {
            int thing = count;
            shapes[thing] = NONE;
            lengths[thing] = length;
            for (int k = 0; k < length; k++) {
                values[firstSlot(thing) + k] = NONE;
            }
            count++;
            return thing;
        }

        int addRecord(int shape, Shapes all) {
            int thing = count;
            shapes[thing] = shape;
            lengths[thing] = NONE;
            for (int up = all.chainLength(shape) - 1; up >= 0; up--) {
                emptyFields(thing, all.upTheChain(shape, up), all);
            }
            count++;
            return thing;
        }

        private void emptyFields(int thing, int shape, Shapes all) {
            for (int k = 0; k < all.fieldCounts[shape]; k++) {
                values[slotOfField(thing, shape, k)] = all.kindOf(shape, k) == LINK_KIND ? NONE : 0;
            }
        }
    }

    /** What one side has. */
    private static final class Side {
        private final Shapes shapes;
        private Things held;

        Side(int roomForThings) {
            shapes = new Shapes(SHAPE_COUNT);
            held = new Things(roomForThings);
        }

        /** Where the value of a record's field is held, or NONE if there is no such record or field. */
        int slotOf(int thing, int shape, int name) {
            if (!held.isRecord(thing) || !shapes.chainHas(held.shapes[thing], shape)) {
                return NONE;
            }
            int k = shapes.fieldOf(shape, name);
            return k == NONE ? NONE : held.slotOfField(thing, shape, k);
        }
    }

    /** The stream. */
    private static final class Bytes {
        private final int[] bytes;
        private int count;
        private boolean overflowed;

        Bytes() {
            bytes = new int[MOST_BYTES];
        }

        boolean has(int k) {
            return k >= 0 && k < count;
        }

        boolean isFull() {
            return count >= MOST_BYTES;
        }

        void removeAll() {
            count = 0;
            overflowed = false;
        }

        void append(int b) {
            if (isFull()) {
                overflowed = true;
                return;
            }
            bytes[count] = b & 255;
            count++;
        }
    }

    /** Writes things of side 0, each thing and each shape once. */
    private static final class Writer {
        private final Bytes stream;
        private final Side side;
        private final int[] thingHandles;
        private final int[] shapeHandles;
        private int handleCount;

        Writer(Bytes stream, Side side) {
            this.stream = stream;
            this.side = side;
            thingHandles = new int[MOST_WRITTEN];
            shapeHandles = new int[SHAPE_COUNT];
        }

        void begin() {
            Arrays.fill(thingHandles, NONE);
            Arrays.fill(shapeHandles, NONE);
            handleCount = 0;
            stream.removeAll();
            stream.append(FIRST_BYTE);
            stream.append(SECOND_BYTE);
        }

        /** Each level gives a handle to one thing more, so the guard on the depth never cuts a thing off. */
        void writeValue(int thing, int depth) {
            if (!side.held.has(thing) || depth > MOST_WRITTEN + 1) {
                stream.append(TELLS_NONE);
            } else if (thingHandles[thing] != NONE) {
                writeHandle(thingHandles[thing]);
            } else if (side.held.isRecord(thing)) {
                writeRecord(thing, depth);
            } else {
                writeRow(thing, depth);
            }
        }

        private void writeRow(int thing, int depth) {
            stream.append(TELLS_ROW);
            stream.append(side.held.lengths[thing]);
            thingHandles[thing] = nextHandle();
            int first = side.held.firstSlot(thing);
            for (int k = 0; k < side.held.lengths[thing]; k++) {
                writeValue((int) side.held.values[first + k], depth + 1);
            }
        }

        private void writeRecord(int thing, int depth) {
            int shape = side.held.shapes[thing];
            stream.append(TELLS_RECORD);
            writeDescription(shape);
            thingHandles[thing] = nextHandle();
            for (int up = side.shapes.chainLength(shape) - 1; up >= 0; up--) {
                writeFields(thing, side.shapes.upTheChain(shape, up), depth);
            }
        }

        private void writeFields(int thing, int shape, int depth) {
            for (int k = 0; k < side.shapes.fieldCounts[shape]; k++) {
                long value = side.held.values[side.held.slotOfField(thing, shape, k)];
                int kind = side.shapes.kindOf(shape, k);
                if (kind == LINK_KIND) {
                    writeValue((int) value, depth + 1);
                } else {
                    writeNumber(value, bytesOfKind(kind));
                }
            }
        }

        private void writeDescription(int shape) {
            int next = shape;
            for (int k = 0; k < SHAPE_COUNT && next != NONE && shapeHandles[next] == NONE; k++) {
                writeNewDescription(next);
                next = side.shapes.parentOf(next);
            }
            if (next == NONE) {
                stream.append(TELLS_NONE);
            } else {
                writeHandle(shapeHandles[next]);
            }
        }

        private void writeNewDescription(int shape) {
            stream.append(TELLS_DESCRIPTION);
            stream.append(shape);
            writeNumber(side.shapes.marks[shape], 4);
            stream.append(side.shapes.fieldCounts[shape]);
            for (int k = 0; k < side.shapes.fieldCounts[shape]; k++) {
                stream.append(side.shapes.nameOf(shape, k));
                stream.append(side.shapes.kindOf(shape, k));
            }
            shapeHandles[shape] = nextHandle();
        }

        private void writeHandle(int handle) {
            stream.append(TELLS_HANDLE);
            writeNumber(handle, 2);
        }

        private void writeNumber(long value, int bytes) {
            for (int k = bytes - 1; k >= 0; k--) {
                stream.append((int) (value >> 8 * k));
            }
        }

        private int nextHandle() {
            handleCount++;
            return handleCount - 1;
        }
    }

    /** Reads the stream into things apart, which become side 1's only when all was right. */
    private static final class Reader {
        private final Bytes stream;
        private final Side side;
        private final int[] limits;
        private final Shapes told;
        private final int[] thingsByHandle;
        private final int[] toldByHandle;
        private Things fresh;
        private int toldCount;
        private int handleCount;
        private int place;
        private int fault;

        Reader(Bytes stream, Side side) {
            this.stream = stream;
            this.side = side;
            limits = HIGHEST_LIMITS.clone();
            told = new Shapes(MOST_DESCRIPTIONS);
            thingsByHandle = new int[MOST_DESCRIPTIONS + MOST_READ];
            toldByHandle = new int[MOST_DESCRIPTIONS + MOST_READ];
            fresh = new Things(MOST_READ);
            fault = NONE;
        }

        boolean changeLimit(int what, int limit) {
            if (what < 0 || what >= limits.length || limit < 0 || limit > HIGHEST_LIMITS[what]) {
                return false;
            }
            limits[what] = limit;
            return true;
        }

        void begin() {
            fault = NONE;
            place = 0;
            toldCount = 0;
            handleCount = 0;
            fresh.removeAll();
            if (stream.count > limits[LIMIT_BYTES]) {
                filtered(0);
            }
            if (nextByte() != FIRST_BYTE) {
                wrong(0);
            }
            if (nextByte() != SECOND_BYTE) {
                wrong(1);
            }
        }

        void finish() {
            if (place < stream.count) {
                wrong(place);
            }
            Things before = side.held;
            side.held = fresh;
            fresh = before;
        }

        /** The number of the thing that the value is or names, or NONE. */
        int readValue(int depth) {
            int start = place;
            switch (nextByte()) {
                case TELLS_NONE:
                    return NONE;
                case TELLS_HANDLE:
                    return readThingHandle();
                case TELLS_RECORD:
                    admit(start, depth);
                    return readRecord(depth);
                case TELLS_ROW:
                    admit(start, depth);
                    return readRow(depth);
                default:
                    wrong(start);
                    return NONE;
            }
        }

        private void admit(int start, int depth) {
            if (depth > limits[LIMIT_DEPTH] || fresh.count >= limits[LIMIT_THINGS]) {
                filtered(start);
            }
        }

        private int readThingHandle() {
            int start = place;
            int handle = (int) readNumber(2);
            if (handle < 0 || handle >= handleCount || thingsByHandle[handle] == NONE) {
                wrong(start);
            }
            return thingsByHandle[handle];
        }

        private int readRow(int depth) {
            int start = place;
            int length = nextByte();
            if (length > LONGEST_ROW) {
                wrong(start);
            }
            if (length > limits[LIMIT_LENGTH]) {
                filtered(start);
            }
            int thing = fresh.addRow(length);
            giveHandle(thing, NONE);
            for (int k = 0; k < length; k++) {
                fresh.values[fresh.firstSlot(thing) + k] = readValue(depth + 1);
            }
            return thing;
        }

        private int readRecord(int depth) {
            int start = place;
            int description = readDescription(SHAPE_COUNT);
            if (description == NONE) {
                wrong(start);
            }
            int shape = told.numbers[description];
            if (!side.shapes.has(shape)) {
                strange(start);
            }
            int thing = fresh.addRecord(shape, side.shapes);
            giveHandle(thing, NONE);
            for (int up = told.chainLength(description) - 1; up >= 0; up--) {
                readFields(thing, told.upTheChain(description, up), depth);
            }
            return thing;
        }

        /** A field that side 1 has not is read all the same: what it links to counts and has a handle. */
        private void readFields(int thing, int description, int depth) {
            int shape = told.numbers[description];
            for (int k = 0; k < told.fieldCounts[description]; k++) {
                int kind = told.kindOf(description, k);
                long value = kind == LINK_KIND ? readValue(depth + 1) : cutToKind(readNumber(bytesOfKind(kind)), kind);
                int kept = side.shapes.fieldOf(shape, told.nameOf(description, k));
                if (kept != NONE) {
                    fresh.values[fresh.slotOfField(thing, shape, kept)] = value;
                }
            }
        }

        /** A description, or NONE; that a parent's number must be lower keeps the calls of itself few. */
        private int readDescription(int below) {
            int start = place;
            switch (nextByte()) {
                case TELLS_NONE:
                    return NONE;
                case TELLS_HANDLE:
                    return readDescriptionHandle(below);
                case TELLS_DESCRIPTION:
                    return readNewDescription(start, below);
                default:
                    wrong(start);
                    return NONE;
            }
        }

        private int readDescriptionHandle(int below) {
            int start = place;
            int handle = (int) readNumber(2);
            if (handle < 0 || handle >= handleCount || toldByHandle[handle] == NONE
                || told.numbers[toldByHandle[handle]] >= below) {
                wrong(start);
            }
            return toldByHandle[handle];
        }

        private int readNewDescription(int start, int below) {
            int number = nextByte();
            if (number >= below || toldCount >= MOST_DESCRIPTIONS) {
                wrong(place - 1);
            }
            int description = toldCount;
            told.begin(description, number, NONE, (int) readNumber(4));
            toldCount++;
            int fields = nextByte();
            if (fields > FIELDS_EACH) {
                wrong(place - 1);
            }
            for (int k = 0; k < fields; k++) {
                readFieldOf(description);
            }
            giveHandle(NONE, description);
            told.parents[description] = readDescription(number);
            if (isStrange(description)) {
                strange(start);
            }
            return description;
        }

        private void readFieldOf(int description) {
            int name = nextByte();
            if (name >= NAME_COUNT) {
                wrong(place - 1);
            }
            int kind = nextByte();
            if (kind >= KIND_COUNT || told.fieldOf(description, name) != NONE
                || !told.comesLast(description, name, kind)) {
                wrong(place - 1);
            }
            told.addField(description, name, kind);
        }

        private boolean isStrange(int description) {
            int shape = told.numbers[description];
            if (!side.shapes.has(shape)) {
                return false;
            }
            if (side.shapes.marks[shape] != told.marks[description]) {
                return true;
            }
            for (int k = 0; k < told.fieldCounts[description]; k++) {
                int here = side.shapes.fieldOf(shape, told.nameOf(description, k));
                if (here != NONE && side.shapes.kindOf(shape, here) != told.kindOf(description, k)) {
                    return true;
                }
            }
            return false;
        }

        private void giveHandle(int thing, int description) {
            thingsByHandle[handleCount] = thing;
            toldByHandle[handleCount] = description;
            handleCount++;
        }

        private long readNumber(int bytes) {
            long value = 0;
            for (int k = 0; k < bytes; k++) {
                value = value << 8 | nextByte();
            }
            return value;
        }

        private int nextByte() {
            if (place >= stream.count) {
                wrong(stream.count);
            }
            place++;
            return stream.bytes[place - 1];
        }

        private void wrong(int where) {
            fault = where;
            throw new IllegalArgumentException();
        }

        private void strange(int where) {
            fault = where;
            throw new IllegalStateException();
        }

        private void filtered(int where) {
            fault = where;
            throw new UnsupportedOperationException();
        }
    }
}
