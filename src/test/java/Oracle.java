import java.util.ArrayList;
import java.util.HashMap;
import java.util.List;
import java.util.Map;
import java.util.TreeMap;

/** The document told a second time, with maps and objects and without thrift, to hold the class against. */
final class Oracle {
    private static final class Shape {
        int number;
        int parent;
        int mark;
        Shape up;
        final Map<Integer, Integer> kinds = new HashMap<>();

        List<Integer> namesInOrder() {
            TreeMap<Integer, Integer> byRank = new TreeMap<>();
            kinds.forEach((name, kind) -> byRank.put(name + (kind == 4 ? 100 : 0), name));
            return new ArrayList<>(byRank.values());
        }
    }

    private static final class Thing {
        Shape shape;
        Thing[] links;
        final Map<String, Object> values = new HashMap<>();
    }

    private static final class Stop extends RuntimeException {
        private static final long serialVersionUID = 1L;
        final String kind;
        final int place;

        Stop(String kind, int place) {
            this.kind = kind;
            this.place = place;
        }
    }

    private final List<Map<Integer, Shape>> shapes = List.of(new HashMap<>(), new HashMap<>());
    private final List<List<Thing>> things = new ArrayList<>(List.of(new ArrayList<>(), new ArrayList<>()));
    private List<Integer> stream = new ArrayList<>();
    private final int[] limits = {1000, 5, 40, 10};
    private int position = -1;

    boolean shape(int side, int shape, int parent, int mark) {
        if (side < 0 || side > 1 || shape < 0 || shape > 5 || parent < -1 || parent >= shape
            || side == 0 && !things.get(0).isEmpty()) {
            return false;
        }
        Shape made = new Shape();
        made.number = shape;
        made.parent = parent;
        made.mark = mark;
        shapes.get(side).put(shape, made);
        if (side == 1) {
            things.set(1, new ArrayList<>());
        }
        return true;
    }

    boolean field(int side, int shape, int name, int kind) {
        if (side < 0 || side > 1 || !shapes.get(side).containsKey(shape) || name < 0 || name > 9 || kind < 0 || kind > 4
            || side == 0 && !things.get(0).isEmpty()) {
            return false;
        }
        Map<Integer, Integer> kinds = shapes.get(side).get(shape).kinds;
        if (kinds.size() == 4 || kinds.containsKey(name)) {
            return false;
        }
        kinds.put(name, kind);
        if (side == 1) {
            things.set(1, new ArrayList<>());
        }
        return true;
    }

    private List<Shape> chain(int side, int shape) {
        List<Shape> chain = new ArrayList<>();
        Shape next = shapes.get(side).get(shape);
        while (next != null) {
            chain.add(next);
            next = shapes.get(side).get(next.parent);
        }
        return chain;
    }

    int build(int shape) {
        if (!shapes.get(0).containsKey(shape) || things.get(0).size() == 24) {
            return -1;
        }
        things.get(0).add(record(0, shape));
        return things.get(0).size() - 1;
    }

    private Thing record(int side, int shape) {
        Thing made = new Thing();
        made.shape = shapes.get(side).get(shape);
        for (Shape s : chain(side, shape)) {
            s.kinds.forEach((name, kind) -> made.values.put(s.number + "." + name, kind == 4 ? null : (Object) 0L));
        }
        return made;
    }

    int row(int length) {
        if (length < 0 || length > 5 || things.get(0).size() == 24) {
            return -1;
        }
        Thing made = new Thing();
        made.links = new Thing[length];
        things.get(0).add(made);
        return things.get(0).size() - 1;
    }

    private Thing find(int side, int thing) {
        return side < 0 || side > 1 || thing < 0 || thing >= things.get(side).size() ? null : things.get(side).get(thing);
    }

    private static long cut(long value, int kind) {
        switch (kind) {
            case 0: return (byte) value;
            case 1: return (short) value;
            case 2: return (int) value;
            default: return value;
        }
    }

    boolean set(int thing, int shape, int name, long value) {
        Thing record = find(0, thing);
        String key = shape + "." + name;
        if (record == null || !record.values.containsKey(key)) {
            return false;
        }
        int kind = shapes.get(0).get(shape).kinds.get(name);
        if (kind == 4 && (value < -1 || value >= things.get(0).size())) {
            return false;
        }
        record.values.put(key, kind == 4 ? find(0, (int) value) : (Object) cut(value, kind));
        return true;
    }

    boolean link(int thing, int k, int to) {
        Thing row = find(0, thing);
        if (row == null || row.links == null || k < 0 || k >= row.links.length || to < -1 || to >= things.get(0).size()) {
            return false;
        }
        row.links[k] = find(0, to);
        return true;
    }

    int write(int thing) {
        if (find(0, thing) == null) {
            return -1;
        }
        List<Integer> out = new ArrayList<>(List.of(172, 237));
        writeValue(find(0, thing), out, new ArrayList<>());
        stream = out.size() > 1000 ? new ArrayList<>() : out;
        return stream.size();
    }

    private void writeValue(Thing thing, List<Integer> out, List<Object> handles) {
        if (thing == null) {
            out.add(112);
        } else if (handles.contains(thing)) {
            out.addAll(List.of(113, handles.indexOf(thing) / 256, handles.indexOf(thing) % 256));
        } else if (thing.links != null) {
            out.addAll(List.of(117, thing.links.length));
            handles.add(thing);
            for (Thing to : thing.links) {
                writeValue(to, out, handles);
            }
        } else {
            out.add(115);
            writeDescription(thing.shape, out, handles);
            handles.add(thing);
            List<Shape> chain = chain(0, thing.shape.number);
            for (int k = chain.size() - 1; k >= 0; k--) {
                for (int name : chain.get(k).namesInOrder()) {
                    Object value = thing.values.get(chain.get(k).number + "." + name);
                    int kind = chain.get(k).kinds.get(name);
                    if (kind == 4) {
                        writeValue((Thing) value, out, handles);
                    } else {
                        writeNumber((Long) value, 1 << kind, out);
                    }
                }
            }
        }
    }

    private void writeDescription(Shape shape, List<Integer> out, List<Object> handles) {
        if (shape == null) {
            out.add(112);
        } else if (handles.contains(shape)) {
            out.addAll(List.of(113, handles.indexOf(shape) / 256, handles.indexOf(shape) % 256));
        } else {
            out.addAll(List.of(114, shape.number));
            writeNumber(shape.mark, 4, out);
            out.add(shape.kinds.size());
            for (int name : shape.namesInOrder()) {
                out.addAll(List.of(name, shape.kinds.get(name)));
            }
            handles.add(shape);
            writeDescription(shapes.get(0).get(shape.parent), out, handles);
        }
    }

    private static void writeNumber(long value, int bytes, List<Integer> out) {
        byte[] all = java.nio.ByteBuffer.allocate(8).putLong(value).array();
        for (int k = 8 - bytes; k < 8; k++) {
            out.add(all[k] & 255);
        }
    }

    void clear() {
        things.set(0, new ArrayList<>());
    }

    int at(int k) {
        return k == -1 ? stream.size() : k < 0 || k >= stream.size() ? -1 : stream.get(k);
    }

    boolean put(int k, int b) {
        if (k < 0 || k > stream.size() || k == 1000) {
            return false;
        }
        if (k == stream.size()) {
            stream.add(b & 255);
        } else {
            stream.set(k, b & 255);
        }
        return true;
    }

    boolean cut(int n) {
        if (n < 0 || n > stream.size()) {
            return false;
        }
        stream = new ArrayList<>(stream.subList(0, n));
        return true;
    }

    boolean limit(int what, int limit) {
        int[] most = {1000, 5, 40, 10};
        if (what < 0 || what > 3 || limit < 0 || limit > most[what]) {
            return false;
        }
        limits[what] = limit;
        return true;
    }

    /** As Run.read tells it. */
    String read() {
        try {
            List<Thing> found = new Reading().all();
            things.set(1, found);
            position = -1;
            return found.size() + " at -1";
        } catch (Stop stop) {
            position = stop.place;
            return stop.kind + " at " + stop.place;
        }
    }

    private final class Reading {
        private final List<Object> handles = new ArrayList<>();
        private final List<Thing> found = new ArrayList<>();
        private int place = 0;

        List<Thing> all() {
            if (stream.size() > limits[0]) {
                throw new Stop("filtered", 0);
            }
            demand(take() == 172, 0);
            demand(take() == 237, 1);
            value(1);
            demand(place == stream.size(), place);
            return found;
        }

        private void demand(boolean right, int where) {
            if (!right) {
                throw new Stop("wrong", where);
            }
        }

        private int take() {
            demand(place < stream.size(), stream.size());
            return stream.get(place++);
        }

        private long take(int bytes) {
            long value = take();
            for (int k = 1; k < bytes; k++) {
                value = value * 256 + take();
            }
            return value;
        }

        private Object handle(Class<?> kind) {
            int where = place;
            int handle = (int) take(2);
            demand(handle < handles.size() && kind.isInstance(handles.get(handle)), where);
            return handles.get(handle);
        }

        private Thing value(int depth) {
            int where = place;
            int tag = take();
            demand(List.of(112, 113, 115, 117).contains(tag), where);
            if (tag == 112) {
                return null;
            }
            if (tag == 113) {
                return (Thing) handle(Thing.class);
            }
            if (depth > limits[3] || found.size() + 1 > limits[2]) {
                throw new Stop("filtered", where);
            }
            return tag == 115 ? record(depth) : row(depth);
        }

        private Thing row(int depth) {
            int length = take();
            demand(length <= 5, place - 1);
            if (length > limits[1]) {
                throw new Stop("filtered", place - 1);
            }
            Thing row = new Thing();
            row.links = new Thing[length];
            found.add(row);
            handles.add(row);
            for (int k = 0; k < length; k++) {
                row.links[k] = value(depth + 1);
            }
            return row;
        }

        private Thing record(int depth) {
            int where = place;
            Shape description = description(null);
            demand(description != null, where);
            if (!shapes.get(1).containsKey(description.number)) {
                throw new Stop("strange", where);
            }
            Thing record = Oracle.this.record(1, description.number);
            found.add(record);
            handles.add(record);
            fields(record, description, depth);
            return record;
        }

        private void fields(Thing record, Shape description, int depth) {
            if (description == null) {
                return;
            }
            fields(record, description.up, depth);
            for (int name : description.namesInOrder()) {
                int kind = description.kinds.get(name);
                Object value = kind == 4 ? value(depth + 1) : (Object) cut(take(1 << kind), kind);
                record.values.replace(description.number + "." + name, value);
            }
        }

        private Shape description(Shape child) {
            int where = place;
            int tag = take();
            demand(List.of(112, 113, 114).contains(tag), where);
            if (tag == 112) {
                return null;
            }
            if (tag == 113) {
                Shape known = (Shape) handle(Shape.class);
                demand(child == null || known.number < child.number, place - 2);
                return known;
            }
            Shape told = new Shape();
            told.number = take();
            demand(told.number <= 5 && (child == null || told.number < child.number), place - 1);
            told.mark = (int) take(4);
            int fields = take();
            demand(fields <= 4, place - 1);
            List<Integer> inOrder = new ArrayList<>();
            for (int k = 0; k < fields; k++) {
                int name = take();
                demand(name <= 9, place - 1);
                int kind = take();
                demand(kind <= 4 && told.kinds.put(name, kind) == null, place - 1);
                inOrder.add(name);
                demand(told.namesInOrder().equals(inOrder), place - 1);
            }
            handles.add(told);
            told.up = description(told);
            Shape here = shapes.get(1).get(told.number);
            if (here != null && (here.mark != told.mark || differs(here, told))) {
                throw new Stop("strange", where);
            }
            return told;
        }

        private boolean differs(Shape here, Shape told) {
            return told.kinds.entrySet().stream()
                .anyMatch(e -> here.kinds.containsKey(e.getKey()) && !here.kinds.get(e.getKey()).equals(e.getValue()));
        }
    }

    int position() {
        return position;
    }

    /** For a test that makes streams which side 1 can read. */
    boolean hasShape(int shape) {
        return shapes.get(1).containsKey(shape);
    }

    int shapeCount() {
        return shapes.get(1).size();
    }

    int markOf(int shape) {
        Shape here = shapes.get(1).get(shape);
        return here == null ? 0 : here.mark;
    }

    /** The kind of a field of side 1, or -1. */
    int kindOf(int shape, int name) {
        Shape here = shapes.get(1).get(shape);
        return here == null ? -1 : here.kinds.getOrDefault(name, -1);
    }

    int things(int side) {
        return side < 0 || side > 1 ? -1 : things.get(side).size();
    }

    int thing(int side, int thing, int what) {
        Thing found = find(side, thing);
        if (found == null || what < 0 || what > 1) {
            return -2;
        }
        if (what == 0) {
            return found.shape == null ? -1 : found.shape.number;
        }
        return found.links == null ? -1 : found.links.length;
    }

    long get(int side, int thing, int shape, int name) {
        Thing record = find(side, thing);
        if (record == null || !record.values.containsKey(shape + "." + name)) {
            return 0;
        }
        Object value = record.values.get(shape + "." + name);
        return value instanceof Long ? (Long) value : things.get(side).indexOf(value);
    }

    int goes(int side, int thing, int k) {
        Thing row = find(side, thing);
        if (row == null || row.links == null || k < 0 || k >= row.links.length) {
            return -2;
        }
        return row.links[k] == null ? -1 : things.get(side).indexOf(row.links[k]);
    }
}
