import java.util.ArrayList;
import java.util.Arrays;
import java.util.List;
import java.util.Map;
import java.util.TreeMap;

/**
 * The document once more, written another way: with exceptions, maps and whole copies of the disk.
 * RandomRunsTest holds every answer of TrailStore against it.
 */
final class PlainStore {
    static final int NONE = -1;
    static final int DOWN = -2;
    static final int FULL = -3;

    private static final class PowerFailed extends Exception {
        private static final long serialVersionUID = 1L;
    }

    private record Write(int area, int place, byte[] bytes) {
    }

    private record Entry(int kind, int number, int where) {
    }

    private record Table(int level, int place, int number, TreeMap<Integer, Entry> entries) {
        int filter() {
            int filter = 0;
            for (int key : entries.keySet()) {
                filter |= bit(7 * key) | bit(11 * key + 5);
            }
            return filter;
        }

        boolean mayHave(int key) {
            return (filter() & bit(7 * key)) != 0 && (filter() & bit(11 * key + 5)) != 0;
        }

        private static int bit(int n) {
            return 1 << (n % 32);
        }
    }

    private record Record(int kind, int key, byte[] value) {
        int size() {
            return 12 + value.length;
        }
    }

    private final int room;
    private byte[][] disk;
    private byte[][] lasting;
    private final List<Write> pending = new ArrayList<>();
    private boolean down;
    private int failsIn;
    private int failKeep;
    private int failCut;

    private int version;
    private int checkpoint;
    private int checkpointNumber;
    private int tail;
    private int head;
    private int nextNumber;
    private int nextTable;
    private List<Table> tables = new ArrayList<>();
    private TreeMap<Integer, Entry> memory = new TreeMap<>();

    private List<Byte> tape = new ArrayList<>();
    private List<Record> batch;
    private byte[] read = new byte[0];
    private int lookedInto;
    private int passedBy;

    /** How often something rare happened, so that the random runs can show that they reach it. */
    final int[] seen = new int[8];
    static final int SEEN_FULL = 0;
    static final int SEEN_LEVEL_2 = 1;
    static final int SEEN_LEVEL_2_EMPTY = 2;
    static final int SEEN_BATCH_DROPPED = 3;
    static final int SEEN_COLLECT_NO_ROOM = 4;
    static final int SEEN_COLLECT_NO_MEMORY = 5;
    static final int SEEN_FAILED = 6;
    static final int SEEN_ROUND = 7;

    PlainStore(int room) {
        this.room = room < 512 ? 512 : room > 4096 ? 4096 : room;
        disk = new byte[][] {new byte[this.room], new byte[12 * 1300], new byte[128]};
        lasting = copy(disk);
        reopen();
    }

    private static byte[][] copy(byte[][] areas) {
        return new byte[][] {areas[0].clone(), areas[1].clone(), areas[2].clone()};
    }

    private void apply(byte[][] to, Write write, int most) {
        for (int i = 0; i < write.bytes.length && i < most; i++) {
            int at = write.place + i;
            to[write.area][write.area == 0 ? at % room : at] = write.bytes[i];
        }
    }

    private void write(int area, int place, byte[] bytes) throws PowerFailed {
        if (area == 0 && place % room + bytes.length > room) {
            seen[SEEN_ROUND]++;
        }
        Write write = new Write(area, place, bytes);
        pending.add(write);
        apply(disk, write, bytes.length);
        if (failsIn > 0 && --failsIn == 0) {
            seen[SEEN_FAILED]++;
            losePower(failKeep, failCut);
            throw new PowerFailed();
        }
    }

    private int syncNow() {
        int count = pending.size();
        pending.clear();
        lasting = copy(disk);
        return count;
    }

    private void losePower(int keep, int cut) {
        for (int i = 0; i < pending.size(); i++) {
            Write write = pending.get(i);
            apply(lasting, write, i < keep ? write.bytes.length : i == keep ? cut : 0);
        }
        disk = copy(lasting);
        pending.clear();
        down = true;
        failsIn = 0;
        memory = new TreeMap<>();
        tape = new ArrayList<>();
        batch = null;
    }

    private static byte[] bytesOf(int... numbers) {
        byte[] bytes = new byte[numbers.length * 4];
        for (int i = 0; i < bytes.length; i++) {
            bytes[i] = (byte) (numbers[i / 4] >> (24 - 8 * (i % 4)));
        }
        return bytes;
    }

    private int number(int area, int at) {
        int number = 0;
        for (int i = 0; i < 4; i++) {
            number = number * 256 + at(area, at + i);
        }
        return number;
    }

    private int at(int area, int i) {
        return disk[area][area == 0 ? i % room : i] & 255;
    }

    private void append(Record record, boolean goesOn) throws PowerFailed {
        int length = record.value.length;
        write(0, head + record.size(), new byte[12]);
        if (length > 0) {
            write(0, head + 12, record.value.clone());
        }
        byte[] header = bytesOf(0, nextNumber, nextNumber);
        header[0] = (byte) (goesOn ? record.kind + 128 : record.kind);
        header[1] = (byte) record.key;
        header[2] = (byte) length;
        write(0, head, header);
        head += record.size();
        nextNumber++;
    }

    private boolean hasRoom(int sizes, int free) {
        return head + sizes + 12 - tail <= room - free;
    }

    private Table writeTable(int level, TreeMap<Integer, Entry> entries, List<Table> putAway) throws PowerFailed {
        List<Integer> free = new ArrayList<>();
        for (int place = 0; place < 12; place++) {
            free.add(place);
        }
        for (Table table : tables) {
            free.remove((Integer) table.place);
        }
        for (Table table : putAway) {
            free.remove((Integer) table.place);
        }
        Table table = new Table(level, free.get(0), nextTable++, new TreeMap<>(entries));
        byte[] bytes = new byte[16 + 10 * entries.size()];
        System.arraycopy(bytesOf(0, table.number, table.filter(), table.number), 0, bytes, 0, 16);
        bytes[0] = 84;
        bytes[1] = (byte) level;
        bytes[2] = (byte) entries.size();
        int at = 16;
        for (Map.Entry<Integer, Entry> e : entries.entrySet()) {
            bytes[at] = e.getKey().byteValue();
            bytes[at + 1] = (byte) e.getValue().kind;
            System.arraycopy(bytesOf(e.getValue().where, e.getValue().number), 0, bytes, at + 2, 8);
            at += 10;
        }
        write(1, table.place * 1300, bytes);
        return table;
    }

    private TreeMap<Integer, Entry> merge(List<Table> newestFirst) {
        TreeMap<Integer, Entry> merged = new TreeMap<>();
        for (Table table : newestFirst) {
            table.entries.forEach(merged::putIfAbsent);
        }
        return merged;
    }

    private List<Table> ofLevel(int level) {
        List<Table> found = new ArrayList<>();
        for (Table table : tables) {
            if (table.level == level) {
                found.add(table);
            }
        }
        return found;
    }

    private void makeCheckpoint() throws PowerFailed {
        syncNow();
        if (!memory.isEmpty()) {
            tables.add(0, writeTable(0, memory, List.of()));
            List<Table> old = ofLevel(0);
            if (old.size() == 4) {
                old.addAll(ofLevel(1));
                Table first = writeTable(1, merge(old), List.of());
                tables.removeAll(old);
                tables.add(0, first);
                if (first.entries.size() > 40) {
                    seen[SEEN_LEVEL_2]++;
                    List<Table> older = new ArrayList<>(List.of(first));
                    older.addAll(ofLevel(2));
                    TreeMap<Integer, Entry> left = merge(older);
                    left.values().removeIf(e -> e.kind == 2);
                    if (left.isEmpty()) {
                        seen[SEEN_LEVEL_2_EMPTY]++;
                        tables.clear();
                    } else {
                        Table second = writeTable(2, left, old);
                        tables = new ArrayList<>(List.of(second));
                    }
                }
            }
        }
        memory = new TreeMap<>();
        syncNow();
        checkpoint = head;
        checkpointNumber = nextNumber;
        writeRoot();
        syncNow();
    }

    private void writeRoot() throws PowerFailed {
        version++;
        int root = 64 * (version % 2);
        byte[] bytes = Arrays.copyOf(bytesOf(version, checkpoint, tail, checkpointNumber, nextTable), 60);
        bytes[20] = (byte) tables.size();
        for (int i = 0; i < tables.size(); i++) {
            bytes[21 + i] = (byte) tables.get(i).place;
        }
        write(2, root + 60, new byte[4]);
        write(2, root, bytes);
        write(2, root + 60, bytesOf(version));
    }

    private Entry entryOf(int key) {
        if (memory.containsKey(key)) {
            return memory.get(key);
        }
        for (Table table : tables) {
            if (table.entries.containsKey(key)) {
                return table.entries.get(key);
            }
        }
        return null;
    }

    private boolean isThere(int key) {
        Entry entry = entryOf(key);
        return entry != null && entry.kind == 1;
    }

    private byte[] valueAt(int where) {
        byte[] value = new byte[at(0, where + 2)];
        for (int i = 0; i < value.length; i++) {
            value[i] = (byte) at(0, where + 12 + i);
        }
        return value;
    }

    private int collecting(int n) throws PowerFailed {
        if (checkpoint != head) {
            makeCheckpoint();
        }
        int end = head;
        int at = tail;
        int looked = 0;
        while (looked < n && at < end) {
            int key = at(0, at + 1);
            byte[] value = valueAt(at);
            Entry entry = entryOf(key);
            if (entry != null && entry.kind == 1 && entry.where == at) {
                if (!hasRoom(12 + value.length, 0)) {
                    seen[SEEN_COLLECT_NO_ROOM]++;
                    break;
                }
                if (memory.size() >= 24 && !memory.containsKey(key)) {
                    seen[SEEN_COLLECT_NO_MEMORY]++;
                    break;
                }
                Entry again = new Entry(1, nextNumber, head);
                append(new Record(1, key, value), false);
                memory.put(key, again);
            }
            looked++;
            at += 12 + value.length;
        }
        syncNow();
        tail = at;
        if (looked > 0) {
            writeRoot();
            syncNow();
        }
        return looked;
    }

    private void pass() throws PowerFailed {
        int first = head;
        int looked;
        do {
            looked = collecting(1000);
        } while (tail < first && looked > 0);
    }

    private boolean crowded(List<Record> records) {
        TreeMap<Integer, Entry> with = new TreeMap<>(memory);
        for (Record record : records) {
            with.put(record.key, new Entry(0, 0, 0));
        }
        return with.size() > 24;
    }

    private int written(List<Record> records) throws PowerFailed {
        int sizes = 0;
        for (Record record : records) {
            sizes += record.size();
        }
        if (crowded(records)) {
            makeCheckpoint();
        }
        if (!hasRoom(sizes, 176)) {
            pass();
            if (!hasRoom(sizes, 176)) {
                seen[SEEN_FULL]++;
                return FULL;
            }
        }
        if (crowded(records)) {
            makeCheckpoint();
        }
        TreeMap<Integer, Entry> fresh = new TreeMap<>();
        for (int i = 0; i < records.size(); i++) {
            Record record = records.get(i);
            fresh.put(record.key, new Entry(record.kind, nextNumber, head));
            append(record, i + 1 < records.size());
        }
        memory.putAll(fresh);
        return records.size();
    }

    private int reopen() {
        down = false;
        int best = -1;
        for (int root = 0; root < 128; root += 64) {
            int its = number(2, root);
            if (its != 0 && its == number(2, root + 60) && (best < 0 || its > number(2, best))) {
                best = root;
            }
        }
        version = best < 0 ? 0 : number(2, best);
        checkpoint = best < 0 ? 0 : number(2, best + 4);
        tail = best < 0 ? 0 : number(2, best + 8);
        checkpointNumber = best < 0 ? 1 : number(2, best + 12);
        nextTable = best < 0 ? 1 : number(2, best + 16);
        tables = new ArrayList<>();
        for (int i = 0; best >= 0 && i < at(2, best + 20); i++) {
            tables.add(tableAt(at(2, best + 21 + i)));
        }
        head = checkpoint;
        nextNumber = checkpointNumber;
        memory = new TreeMap<>();
        int came = readLog();
        failsIn = 0;
        lookedInto = 0;
        passedBy = 0;
        try {
            write(0, head, new byte[12]);
        } catch (PowerFailed e) {
            throw new IllegalStateException(e);
        }
        syncNow();
        return came;
    }

    private int readLog() {
        TreeMap<Integer, Entry> open = new TreeMap<>();
        int came = 0;
        int at = head;
        int number = nextNumber;
        int lastEnd = head;
        while (true) {
            int kind = at(0, at) & 127;
            int length = at(0, at + 2);
            boolean header = (kind == 1 || kind == 2) && at(0, at + 1) < 120 && length <= (kind == 1 ? 64 : 0)
                    && at(0, at + 3) == 0 && number(0, at + 4) == number && number(0, at + 8) == number;
            if (!header || at + 12 + length > tail + room - 12) {
                break;
            }
            open.put(at(0, at + 1), new Entry(kind, number, at));
            boolean ends = at(0, at) < 128;
            at += 12 + length;
            number++;
            if (ends) {
                memory.putAll(open);
                open.clear();
                came += number - nextNumber;
                lastEnd = at;
                nextNumber = number;
            }
        }
        if (!open.isEmpty()) {
            seen[SEEN_BATCH_DROPPED]++;
        }
        head = lastEnd;
        return came;
    }

    private Table tableAt(int place) {
        int start = 1300 * place;
        TreeMap<Integer, Entry> entries = new TreeMap<>();
        for (int i = 0; i < at(1, start + 2); i++) {
            int at = start + 16 + 10 * i;
            entries.put(at(1, at), new Entry(at(1, at + 1), number(1, at + 6), number(1, at + 2)));
        }
        return new Table(at(1, start + 1), place, number(1, start + 4), entries);
    }

    int type(long bytes, int n) {
        if (down) {
            return DOWN;
        }
        if (n < 1 || n > 8 || tape.size() + n > 64) {
            return NONE;
        }
        for (int i = 1; i <= n; i++) {
            tape.add((byte) (bytes >> (8 * (n - i))));
        }
        return tape.size();
    }

    int put(int key) {
        if (down) {
            return DOWN;
        }
        if (key < 0 || key > 119 || batch != null && batch.size() == 8) {
            return NONE;
        }
        byte[] value = new byte[tape.size()];
        for (int i = 0; i < value.length; i++) {
            value[i] = tape.get(i);
        }
        tape.clear();
        return add(new Record(1, key, value));
    }

    int remove(int key) {
        if (down) {
            return DOWN;
        }
        if (key < 0 || key > 119 || batch != null && batch.size() == 8) {
            return NONE;
        }
        if (batch == null && !isThere(key)) {
            return 0;
        }
        return add(new Record(2, key, new byte[0]));
    }

    private int add(Record record) {
        if (batch != null) {
            batch.add(record);
            return batch.size();
        }
        try {
            return written(List.of(record));
        } catch (PowerFailed e) {
            return DOWN;
        }
    }

    int begin() {
        if (down) {
            return DOWN;
        }
        if (batch != null) {
            return 0;
        }
        batch = new ArrayList<>();
        return 1;
    }

    int commit() {
        if (down) {
            return DOWN;
        }
        List<Record> records = batch;
        batch = null;
        if (records == null || records.isEmpty()) {
            return NONE;
        }
        try {
            return written(records);
        } catch (PowerFailed e) {
            return DOWN;
        }
    }

    int cancel() {
        if (down) {
            return DOWN;
        }
        int had = batch == null ? NONE : batch.size();
        batch = null;
        return had;
    }

    int get(int key) {
        if (down) {
            return DOWN;
        }
        read = new byte[0];
        lookedInto = 0;
        passedBy = 0;
        if (key < 0 || key > 119) {
            return NONE;
        }
        if (!memory.containsKey(key)) {
            for (Table table : tables) {
                if (table.mayHave(key)) {
                    lookedInto++;
                } else {
                    passedBy++;
                }
                if (table.entries.containsKey(key)) {
                    break;
                }
            }
        }
        if (!isThere(key)) {
            return NONE;
        }
        read = valueAt(entryOf(key).where);
        return read.length;
    }

    int read(int i) {
        return i < 0 || i >= read.length ? NONE : read[i] & 255;
    }

    int next(int key) {
        if (down) {
            return DOWN;
        }
        for (int k = 0; k < 120; k++) {
            if (k >= key && isThere(k)) {
                return k;
            }
        }
        return NONE;
    }

    int sync() {
        return down ? DOWN : syncNow();
    }

    int checkpoint() {
        if (down) {
            return DOWN;
        }
        try {
            makeCheckpoint();
            return tables.size();
        } catch (PowerFailed e) {
            return DOWN;
        }
    }

    int collect(int n) {
        if (down) {
            return DOWN;
        }
        if (n < 1 || n > 1000) {
            return NONE;
        }
        try {
            return collecting(n);
        } catch (PowerFailed e) {
            return DOWN;
        }
    }

    int crash(int keep, int cut) {
        if (down) {
            return DOWN;
        }
        if (keep < 0 || cut < 0) {
            return NONE;
        }
        int count = pending.size();
        losePower(keep, cut);
        return count;
    }

    int fail(int n, int keep, int cut) {
        if (down) {
            return DOWN;
        }
        if (n < 1 || n > 1000 || keep < 0 || cut < 0) {
            return NONE;
        }
        failsIn = n;
        failKeep = keep;
        failCut = cut;
        return 1;
    }

    int spare() {
        if (down) {
            return DOWN;
        }
        int was = failsIn > 0 ? 1 : 0;
        failsIn = 0;
        return was;
    }

    int open() {
        return down ? reopen() : NONE;
    }

    int told(int what) {
        if (down && what != 10 && what != 11) {
            return DOWN;
        }
        int keys = 0;
        int bytes = 0;
        for (int key = 0; key < 120 && (what == 8 || what == 9); key++) {
            if (isThere(key)) {
                keys++;
                bytes += 12 + valueAt(entryOf(key).where).length;
            }
        }
        return switch (what) {
            case 0 -> head;
            case 1 -> tail;
            case 2 -> checkpoint;
            case 3 -> nextNumber;
            case 4 -> version;
            case 5 -> memory.size();
            case 6 -> tables.size();
            case 7 -> pending.size();
            case 8 -> keys;
            case 9 -> bytes;
            case 10 -> lookedInto;
            case 11 -> passedBy;
            case 12 -> tape.size();
            case 13 -> batch == null ? NONE : batch.size();
            case 14 -> nextTable;
            default -> NONE;
        };
    }

    int table(int i, int what) {
        if (down) {
            return DOWN;
        }
        if (i < 0 || i >= tables.size()) {
            return 0;
        }
        Table table = tables.get(i);
        return switch (what) {
            case 0 -> table.level;
            case 1 -> table.entries.size();
            case 2 -> table.place;
            case 3 -> table.number;
            case 4 -> table.entries.firstKey();
            case 5 -> table.entries.lastKey();
            case 6 -> table.filter();
            default -> 0;
        };
    }

    int entry(int key, int what) {
        if (down) {
            return DOWN;
        }
        Entry entry = entryOf(key);
        if (entry == null) {
            return NONE;
        }
        return switch (what) {
            case 0 -> entry.kind;
            case 1 -> entry.number;
            case 2 -> entry.where;
            case 3 -> memory.containsKey(key) ? 1 : 0;
            default -> NONE;
        };
    }

    int cell(int area, int i) {
        return area < 0 || area > 2 || i < 0 || i >= disk[area].length ? NONE : at(area, i);
    }

    /** By doing it: a copy loses its power, keeps all, and is opened. */
    int check() {
        if (down) {
            return DOWN;
        }
        PlainStore other = new PlainStore(room);
        other.disk = copy(disk);
        other.lasting = copy(disk);
        other.reopen();
        boolean right = checkpoint >= tail && checkpoint <= head;
        for (int key = 0; key < 120; key++) {
            right &= isThere(key) == other.isThere(key);
            if (right && isThere(key)) {
                Entry entry = entryOf(key);
                right = Arrays.equals(valueAt(entry.where), other.valueAt(other.entryOf(key).where))
                        && entry.where >= tail && entry.where + 12 + at(0, entry.where + 2) <= head
                        && at(0, entry.where + 1) == key && number(0, entry.where + 4) == entry.number;
            }
        }
        return right ? 1 : 0;
    }
}
