/**
 * A store of values by keys on a disk that can lose power at any write.
 *
 * <p>The face looks at the arguments and keeps the tape, the batch and what was read; the Keeper
 * writes; the View is what the store knows of the disk; the Disk can take back what is not lasting.
 */
public final class TrailStore {
    public static final int NONE = -1;
    public static final int DOWN = -2;
    public static final int FULL = -3;

    private static final int LEAST_ROOM = 512;
    private static final int MOST_ROOM = 4096;
    private static final int KEYS = 120;
    private static final int LONGEST = 64;
    private static final int MOST_IN_BATCH = 8;
    private static final int MOST_IN_MEMORY = 24;
    private static final int MOST_COLLECTED = 1000;
    private static final int MOST_TILL_FAILING = 1000;

    private static final int NOTHING = 0;
    private static final int VALUE = 1;
    private static final int REMOVAL = 2;
    private static final int GOES_ON = 128;
    private static final int HEADER = 12;
    private static final int KEPT_FREE = 176;

    private static final int LOG = 0;
    private static final int TABLES = 1;
    private static final int ROOTS = 2;

    private static final int PLACES = 12;
    private static final int PLACE_BYTES = 1300;
    private static final int TABLE_MARK = 84;
    private static final int TABLE_HEADER = 16;
    private static final int ENTRY_BYTES = 10;
    private static final int MOST_OF_LEVEL_0 = 3;
    private static final int MOST_IN_LEVEL_1 = 40;
    private static final int MOST_TABLES = 5;

    private static final int ROOT_BYTES = 64;
    private static final int ROOT_PLACES = 21;
    private static final int ROOT_END = 60;

    private final Disk disk;
    private final View view;
    private final Keeper keeper;
    private final View reopened;
    private final Entries all;
    private final Entries reopenedAll;
    private final Batch batch;
    private boolean begun;
    private final byte[] tape;
    private int taped;
    private final byte[] value;
    private int valueLength;
    private final Found got;
    private final Found found;

    public TrailStore(int room) {
        disk = new Disk(Math.max(LEAST_ROOM, Math.min(MOST_ROOM, room)));
        view = new View(disk);
        keeper = new Keeper(disk, view);
        reopened = new View(disk);
        all = new Entries();
        reopenedAll = new Entries();
        batch = new Batch();
        tape = new byte[LONGEST];
        value = new byte[LONGEST];
        got = new Found();
        found = new Found();
        keeper.startUp();
    }

    public int type(long bytes, int n) {
        if (disk.down) {
            return DOWN;
        }
        if (n < 1 || n > 8 || taped + n > LONGEST) {
            return NONE;
        }
        for (int i = n - 1; i >= 0; i--) {
            tape[taped] = (byte) (bytes >>> (8 * i));
            taped++;
        }
        return taped;
    }

    public int put(int key) {
        if (disk.down) {
            return DOWN;
        }
        if (!isKey(key) || batch.count == MOST_IN_BATCH) {
            return NONE;
        }
        batch.add(VALUE, key, tape, taped);
        taped = 0;
        return begun ? batch.count : batchOver(keeper.store(batch));
    }

    public int remove(int key) {
        if (disk.down) {
            return DOWN;
        }
        if (!isKey(key) || batch.count == MOST_IN_BATCH) {
            return NONE;
        }
        if (!begun && !isThere(key)) {
            return 0;
        }
        batch.add(REMOVAL, key, tape, 0);
        return begun ? batch.count : batchOver(keeper.store(batch));
    }

    public int begin() {
        if (disk.down) {
            return DOWN;
        }
        if (begun) {
            return 0;
        }
        begun = true;
        return 1;
    }

    public int commit() {
        if (disk.down) {
            return DOWN;
        }
        if (batch.count == 0) {
            return batchOver(NONE);
        }
        return batchOver(keeper.store(batch));
    }

    public int cancel() {
        if (disk.down) {
            return DOWN;
        }
        return batchOver(begun ? batch.count : NONE);
    }

    public int get(int key) {
        if (disk.down) {
            return DOWN;
        }
        valueLength = 0;
        view.find(key, got);
        if (got.kind != VALUE) {
            return NONE;
        }
        valueLength = disk.copyValue(got.where, value);
        return valueLength;
    }

    public int read(int i) {
        return i < 0 || i >= valueLength ? NONE : value[i] & 255;
    }

    public int next(int key) {
        if (disk.down) {
            return DOWN;
        }
        view.gatherAll(all);
        for (int k = Math.max(key, 0); k < KEYS; k++) {
            if (all.kind[k] == VALUE) {
                return k;
            }
        }
        return NONE;
    }

    public int sync() {
        if (disk.down) {
            return DOWN;
        }
        int writes = disk.writes;
        disk.makeLasting();
        return writes;
    }

    public int checkpoint() {
        if (disk.down) {
            return DOWN;
        }
        keeper.makeCheckpoint();
        return ended(view.tables);
    }

    public int collect(int n) {
        if (disk.down) {
            return DOWN;
        }
        if (n < 1 || n > MOST_COLLECTED) {
            return NONE;
        }
        return ended(keeper.collectTail(n));
    }

    public int crash(int keep, int cut) {
        if (disk.down) {
            return DOWN;
        }
        if (keep < 0 || cut < 0) {
            return NONE;
        }
        int writes = disk.writes;
        losePower(keep, cut);
        return writes;
    }

    public int fail(int n, int keep, int cut) {
        if (disk.down) {
            return DOWN;
        }
        if (n < 1 || n > MOST_TILL_FAILING || keep < 0 || cut < 0) {
            return NONE;
        }
        disk.failsIn = n;
        disk.failKeep = keep;
        disk.failCut = cut;
        return 1;
    }

    public int spare() {
        if (disk.down) {
            return DOWN;
        }
        int told = disk.failsIn > 0 ? 1 : 0;
        disk.failsIn = 0;
        return told;
    }

    public int open() {
        if (!disk.down) {
            return NONE;
        }
        got.clear();
        return keeper.startUp();
    }

    public int told(int what) {
        if (what == 10) {
            return got.lookedInto;
        }
        if (what == 11) {
            return got.passedBy;
        }
        if (disk.down) {
            return DOWN;
        }
        switch (what) {
            case 0: return view.head;
            case 1: return view.tail;
            case 2: return view.checkpoint;
            case 3: return view.nextNumber;
            case 4: return view.version;
            case 5: return view.memory.count;
            case 6: return view.tables;
            case 7: return disk.writes;
            case 8: return keysThere();
            case 9: return bytesThere();
            case 12: return taped;
            case 13: return begun ? batch.count : NONE;
            case 14: return view.nextTable;
            default: return NONE;
        }
    }

    public int table(int i, int what) {
        if (disk.down) {
            return DOWN;
        }
        if (i < 0 || i >= view.tables) {
            return 0;
        }
        int start = view.tableStart(i);
        int entries = disk.byteAt(start + 2);
        switch (what) {
            case 0: return disk.byteAt(start + 1);
            case 1: return entries;
            case 2: return view.places[i];
            case 3: return disk.numberAt(start + 4);
            case 4: return disk.byteAt(start + TABLE_HEADER);
            case 5: return disk.byteAt(start + TABLE_HEADER + ENTRY_BYTES * (entries - 1));
            case 6: return disk.numberAt(start + 8);
            default: return 0;
        }
    }

    public int entry(int key, int what) {
        if (disk.down) {
            return DOWN;
        }
        view.find(key, found);
        if (found.kind == NOTHING) {
            return NONE;
        }
        switch (what) {
            case 0: return found.kind;
            case 1: return found.number;
            case 2: return found.where;
            case 3: return found.inMemory ? 1 : 0;
            default: return NONE;
        }
    }

    public int cell(int area, int i) {
        int cell = disk.cellOf(area, i);
        return cell == NONE ? NONE : disk.byteAt(cell);
    }

    public int check() {
        if (disk.down) {
            return DOWN;
        }
        view.gatherAll(all);
        reopened.load();
        reopened.gatherAll(reopenedAll);
        boolean right = view.checkpoint - view.tail >= 0 && view.head - view.checkpoint >= 0;
        for (int key = 0; key < KEYS; key++) {
            right = right && hasItsRecord(key) && isSameReopened(key);
        }
        return right ? 1 : 0;
    }

    private static boolean isKey(int key) {
        return key >= 0 && key < KEYS;
    }

    private boolean isThere(int key) {
        view.find(key, found);
        return found.kind == VALUE;
    }

    private int keysThere() {
        view.gatherAll(all);
        int there = 0;
        for (int key = 0; key < KEYS; key++) {
            if (all.kind[key] == VALUE) {
                there++;
            }
        }
        return there;
    }

    private int bytesThere() {
        view.gatherAll(all);
        int bytes = 0;
        for (int key = 0; key < KEYS; key++) {
            if (all.kind[key] == VALUE) {
                bytes += disk.recordSize(all.where[key]);
            }
        }
        return bytes;
    }

    private boolean hasItsRecord(int key) {
        if (all.kind[key] != VALUE) {
            return true;
        }
        int where = all.where[key];
        return where - view.tail >= 0
                && where + disk.recordSize(where) - view.head <= 0
                && view.isRecord(where, all.number[key])
                && (disk.logByte(where) & ~GOES_ON) == VALUE
                && disk.logByte(where + 1) == key;
    }

    private boolean isSameReopened(int key) {
        boolean there = all.kind[key] == VALUE;
        if (there != (reopenedAll.kind[key] == VALUE)) {
            return false;
        }
        return !there || disk.sameValue(all.where[key], reopenedAll.where[key]);
    }

    private int batchOver(int answer) {
        batch.count = 0;
        begun = false;
        return ended(answer);
    }

    /**
     * What a call that may have written answers. Only here the writes are taken back when the power
     * failed at one of them: till then the disk takes no more, so the call can run out harmlessly.
     */
    private int ended(int answer) {
        if (!disk.down) {
            return answer;
        }
        losePower(disk.failKeep, disk.failCut);
        return DOWN;
    }

    private void losePower(int keep, int cut) {
        disk.takeBack(keep, cut);
        taped = 0;
        batch.count = 0;
        begun = false;
    }

    /** The areas, in one row of cells, and what lay under each write that is not lasting. */
    private static final class Disk {
        /** A record has 12 bytes at least and makes 3 writes at most, all between two syncs. */
        private static final int MOST_WRITES = 3 * MOST_ROOM / HEADER;
        /** A record's writes cover less than twice its size; the tables of a checkpoint less. */
        private static final int MOST_COVERED = 2 * MOST_ROOM;

        final int room;
        private final byte[] cells;
        private final int[] starts;
        private final int[] lengths;
        private final byte[] covered;
        private int coveredBytes;
        int writes;
        int failsIn;
        int failKeep;
        int failCut;
        boolean down;

        Disk(int room) {
            this.room = room;
            cells = new byte[room + PLACES * PLACE_BYTES + 2 * ROOT_BYTES];
            starts = new int[MOST_WRITES];
            lengths = new int[MOST_WRITES];
            covered = new byte[MOST_COVERED];
        }

        int cellOf(int area, int i) {
            switch (area) {
                case LOG: return i < 0 || i >= room ? NONE : i;
                case TABLES: return i < 0 || i >= PLACES * PLACE_BYTES ? NONE : tableCell(0) + i;
                case ROOTS: return i < 0 || i >= 2 * ROOT_BYTES ? NONE : rootCell(0) + i;
                default: return NONE;
            }
        }

        int logCell(int place) {
            int cell = place % room;
            return cell < 0 ? cell + room : cell;
        }

        int tableCell(int place) {
            return room + place * PLACE_BYTES;
        }

        int rootCell(int version) {
            return room + PLACES * PLACE_BYTES + (version & 1) * ROOT_BYTES;
        }

        int byteAt(int cell) {
            return cell < 0 || cell >= cells.length ? 0 : cells[cell] & 255;
        }

        int numberAt(int cell) {
            return byteAt(cell) << 24 | byteAt(cell + 1) << 16 | byteAt(cell + 2) << 8 | byteAt(cell + 3);
        }

        int logByte(int place) {
            return cells[logCell(place)] & 255;
        }

        int logNumber(int place) {
            return logByte(place) << 24 | logByte(place + 1) << 16 | logByte(place + 2) << 8 | logByte(place + 3);
        }

        int recordSize(int place) {
            return HEADER + logByte(place + 2);
        }

        int copyValue(int place, byte[] row) {
            int length = Math.min(logByte(place + 2), row.length);
            for (int i = 0; i < length; i++) {
                row[i] = (byte) logByte(place + HEADER + i);
            }
            return length;
        }

        boolean sameValue(int place, int other) {
            int size = recordSize(place);
            boolean same = size == recordSize(other);
            for (int i = HEADER; same && i < size; i++) {
                same = logByte(place + i) == logByte(other + i);
            }
            return same;
        }

        void write(int cell, byte[] row, int from, int length) {
            if (down || !isInside(cell, length) || from < 0 || from + length > row.length) {
                return;
            }
            if (writes == MOST_WRITES || coveredBytes + length > MOST_COVERED) {
                // never so, as both bounds follow from the room: but no index may go astray
                makeLasting();
            }
            starts[writes] = cell;
            lengths[writes] = length;
            writes++;
            int at = cell;
            for (int i = 0; i < length; i++) {
                covered[coveredBytes] = cells[at];
                coveredBytes++;
                cells[at] = row[from + i];
                at = cellBehind(at);
            }
            if (failsIn > 0) {
                failsIn--;
                down = failsIn == 0;
            }
        }

        void makeLasting() {
            if (!down) {
                writes = 0;
                coveredBytes = 0;
            }
        }

        /** Backwards, so that each write uncovers what the one before it had left. */
        void takeBack(int keep, int cut) {
            for (int w = writes - 1; w >= 0 && w >= keep; w--) {
                coveredBytes -= lengths[w];
                int at = starts[w];
                for (int i = 0; i < lengths[w]; i++) {
                    if (w > keep || i >= cut) {
                        cells[at] = covered[coveredBytes + i];
                    }
                    at = cellBehind(at);
                }
            }
            writes = 0;
            coveredBytes = 0;
            failsIn = 0;
            down = true;
        }

        private boolean isInside(int cell, int length) {
            boolean inLog = cell >= 0 && cell < room;
            return inLog || cell >= room && cell + length <= cells.length;
        }

        /** The log lies first in the row, so its end is the only place where a write goes round. */
        private int cellBehind(int cell) {
            return cell + 1 == room ? 0 : cell + 1;
        }
    }

    /** At most one entry for each key. */
    private static final class Entries {
        final int[] kind = new int[KEYS];
        final int[] number = new int[KEYS];
        final int[] where = new int[KEYS];
        int count;

        Entries() {
        }

        void clear() {
            for (int key = 0; key < KEYS; key++) {
                kind[key] = NOTHING;
            }
            count = 0;
        }

        boolean has(int key) {
            return isKey(key) && kind[key] != NOTHING;
        }

        void set(int key, int itsKind, int itsNumber, int itsPlace) {
            if (!isKey(key)) {
                return;
            }
            if (kind[key] == NOTHING) {
                count++;
            }
            kind[key] = itsKind;
            number[key] = itsNumber;
            where[key] = itsPlace;
        }

        void dropRemovals() {
            for (int key = 0; key < KEYS; key++) {
                if (kind[key] == REMOVAL) {
                    kind[key] = NOTHING;
                    count--;
                }
            }
        }

        int countWith(Batch records) {
            int together = count;
            for (int i = 0; i < records.count; i++) {
                if (!has(records.key[i]) && records.isFirstOfKey(i)) {
                    together++;
                }
            }
            return together;
        }
    }

    /** Records that are to be written together. */
    private static final class Batch {
        final int[] kind = new int[MOST_IN_BATCH];
        final int[] key = new int[MOST_IN_BATCH];
        final int[] length = new int[MOST_IN_BATCH];
        final byte[][] value = new byte[MOST_IN_BATCH][LONGEST];
        int count;

        Batch() {
        }

        void add(int itsKind, int itsKey, byte[] row, int itsLength) {
            if (count >= MOST_IN_BATCH || itsLength > LONGEST || itsLength > row.length) {
                return;
            }
            kind[count] = itsKind;
            key[count] = itsKey;
            length[count] = itsLength;
            for (int i = 0; i < itsLength; i++) {
                value[count][i] = row[i];
            }
            count++;
        }

        boolean isFirstOfKey(int record) {
            for (int i = 0; i < record; i++) {
                if (key[i] == key[record]) {
                    return false;
                }
            }
            return true;
        }

        int size() {
            int bytes = 0;
            for (int i = 0; i < count; i++) {
                bytes += HEADER + length[i];
            }
            return bytes;
        }
    }

    /** The entry of one key, and the way to it. */
    private static final class Found {
        int kind;
        int number;
        int where;
        boolean inMemory;
        int lookedInto;
        int passedBy;

        Found() {
        }

        void clear() {
            kind = NOTHING;
            number = 0;
            where = 0;
            inMemory = false;
            lookedInto = 0;
            passedBy = 0;
        }
    }

    /** What an opening finds on a disk, and what was done to it since. */
    private static final class View {
        private final Disk disk;
        final Entries memory = new Entries();
        /** One more than stay in use: a checkpoint has four of level 0 for a while. */
        final int[] places = new int[MOST_TABLES + 1];
        int tables;
        int version;
        int checkpoint;
        int checkpointNumber;
        int tail;
        int head;
        int nextNumber;
        int nextTable;

        View(Disk disk) {
            this.disk = disk;
        }

        /** Only reads, so that check() can ask what an opening would find. */
        int load() {
            loadRoot();
            memory.clear();
            head = checkpoint;
            nextNumber = checkpointNumber;
            int first = nextNumber;
            int at = head;
            int number = nextNumber;
            for (int size = 0; size < disk.room && isRecord(at, number); size += HEADER) {
                int end = at + disk.recordSize(at);
                if (end - tail > disk.room - HEADER) {
                    break;
                }
                boolean goesOn = (disk.logByte(at) & GOES_ON) != 0;
                at = end;
                number++;
                if (!goesOn) {
                    takeRecordsBefore(number);
                }
            }
            return nextNumber - first;
        }

        private void loadRoot() {
            version = 0;
            checkpoint = 0;
            tail = 0;
            checkpointNumber = 1;
            nextTable = 1;
            tables = 0;
            for (int i = 0; i < 2; i++) {
                int root = disk.rootCell(i);
                int itsVersion = disk.numberAt(root);
                if (itsVersion > version && itsVersion == disk.numberAt(root + ROOT_END)) {
                    loadRootAt(root);
                }
            }
        }

        private void loadRootAt(int root) {
            version = disk.numberAt(root);
            checkpoint = disk.numberAt(root + 4);
            tail = disk.numberAt(root + 8);
            checkpointNumber = disk.numberAt(root + 12);
            nextTable = disk.numberAt(root + 16);
            tables = Math.min(disk.byteAt(root + 20), MOST_TABLES);
            for (int i = 0; i < tables; i++) {
                places[i] = disk.byteAt(root + ROOT_PLACES + i);
            }
        }

        boolean isRecord(int place, int number) {
            int kind = disk.logByte(place) & ~GOES_ON;
            int length = disk.logByte(place + 2);
            boolean fitting = kind == VALUE && length <= LONGEST || kind == REMOVAL && length == 0;
            return fitting
                    && isKey(disk.logByte(place + 1))
                    && disk.logByte(place + 3) == 0
                    && disk.logNumber(place + 4) == number
                    && disk.logNumber(place + 8) == number;
        }

        private void takeRecordsBefore(int number) {
            for (int n = nextNumber; n < number; n++) {
                int kind = disk.logByte(head) & ~GOES_ON;
                memory.set(disk.logByte(head + 1), kind, n, head);
                head += disk.recordSize(head);
            }
            nextNumber = number;
        }

        int tableStart(int i) {
            return disk.tableCell(places[i]);
        }

        /** A bit for each. */
        int placesInUse() {
            int bits = 0;
            for (int i = 0; i < tables; i++) {
                bits |= 1 << places[i];
            }
            return bits;
        }

        /** How many of the newest tables are of a level or one below. */
        int tablesUpTo(int level) {
            int counted = 0;
            while (counted < tables && disk.byteAt(tableStart(counted) + 1) <= level) {
                counted++;
            }
            return counted;
        }

        void find(int key, Found found) {
            found.clear();
            if (memory.has(key)) {
                found.kind = memory.kind[key];
                found.number = memory.number[key];
                found.where = memory.where[key];
                found.inMemory = true;
            } else if (isKey(key)) {
                findInTables(key, found);
            }
        }

        private void findInTables(int key, Found found) {
            int bits = filterBits(key);
            for (int i = 0; i < tables && found.kind == NOTHING; i++) {
                int start = tableStart(i);
                if ((disk.numberAt(start + 8) & bits) != bits) {
                    found.passedBy++;
                    continue;
                }
                found.lookedInto++;
                int at = entryCell(start, key);
                if (at != NONE) {
                    found.kind = disk.byteAt(at + 1);
                    found.where = disk.numberAt(at + 2);
                    found.number = disk.numberAt(at + 6);
                }
            }
        }

        private int entryCell(int start, int key) {
            int low = 0;
            int high = disk.byteAt(start + 2) - 1;
            for (int tries = 0; tries < KEYS && low <= high; tries++) {
                int middle = (low + high) / 2;
                int at = start + TABLE_HEADER + ENTRY_BYTES * middle;
                int itsKey = disk.byteAt(at);
                if (itsKey == key) {
                    return at;
                }
                if (itsKey < key) {
                    low = middle + 1;
                } else {
                    high = middle - 1;
                }
            }
            return NONE;
        }

        static int filterBits(int key) {
            return 1 << (7 * key % 32) | 1 << ((11 * key + 5) % 32);
        }

        void gatherAll(Entries into) {
            gatherTables(tables, into);
            for (int key = 0; key < KEYS; key++) {
                if (memory.kind[key] != NOTHING) {
                    into.set(key, memory.kind[key], memory.number[key], memory.where[key]);
                }
            }
        }

        /** The oldest first, so that of each key the entry of the newest table stays. */
        void gatherTables(int newest, Entries into) {
            into.clear();
            for (int i = newest - 1; i >= 0; i--) {
                int start = tableStart(i);
                int entries = disk.byteAt(start + 2);
                for (int e = 0; e < entries; e++) {
                    int at = start + TABLE_HEADER + ENTRY_BYTES * e;
                    into.set(disk.byteAt(at), disk.byteAt(at + 1), disk.numberAt(at + 6), disk.numberAt(at + 2));
                }
            }
        }

        /** Makes room for a table in the place of the newest ones, or only puts these away. */
        void replaceNewest(int replaced, boolean byTable, int place) {
            int kept = tables - replaced;
            int shift = byTable ? 1 : 0;
            if (kept < 0 || shift + kept > places.length) {
                return;
            }
            System.arraycopy(places, replaced, places, shift, kept);
            if (byTable) {
                places[0] = place;
            }
            tables = shift + kept;
        }
    }

    /** All that writes. */
    private static final class Keeper {
        /** A round of a pass looks at one record at least, and far fewer ever lie in the log. */
        private static final int MOST_ROUNDS = 1000;

        private final Disk disk;
        private final View view;
        private final Found found = new Found();
        private final Entries merged = new Entries();
        private final byte[] zeros = new byte[HEADER];
        private final byte[] header = new byte[HEADER];
        private final byte[] page = new byte[PLACE_BYTES];
        private final byte[] moved = new byte[LONGEST];
        /** A bit for each place that is in use or was put away in this checkpoint. */
        private int taken;

        Keeper(Disk disk, View view) {
            this.disk = disk;
            this.view = view;
        }

        int startUp() {
            disk.down = false;
            int came = view.load();
            disk.write(disk.logCell(view.head), zeros, 0, HEADER);
            disk.makeLasting();
            return came;
        }

        /** How many records were written, or FULL. */
        int store(Batch records) {
            int bytes = records.size() + KEPT_FREE;
            if (view.memory.countWith(records) > MOST_IN_MEMORY) {
                makeCheckpoint();
            }
            if (!hasRoom(bytes)) {
                // the pass stands here, and in no method of its own, to keep the calls few that stand open
                int goal = view.head;
                int looked = 1;
                for (int round = 0; round < MOST_ROUNDS && looked > 0 && view.tail < goal; round++) {
                    looked = collectTail(MOST_COLLECTED);
                }
                if (!hasRoom(bytes)) {
                    return FULL;
                }
                if (view.memory.countWith(records) > MOST_IN_MEMORY) {
                    makeCheckpoint();
                }
            }
            appendAll(records);
            return records.count;
        }

        private void appendAll(Batch records) {
            for (int i = 0; i < records.count; i++) {
                int goesOn = i < records.count - 1 ? GOES_ON : 0;
                append(records.kind[i] | goesOn, records.key[i], records.value[i], records.length[i]);
            }
        }

        private boolean hasRoom(int bytes) {
            return view.head + bytes + HEADER - view.tail <= disk.room;
        }

        /**
         * The header last, so that a record that is cut off is none. Memory may have a batch's records
         * before its last one is written: if the power fails in between, memory is gone as well.
         */
        private void append(int kind, int key, byte[] value, int length) {
            disk.write(disk.logCell(view.head + HEADER + length), zeros, 0, HEADER);
            if (length > 0) {
                disk.write(disk.logCell(view.head + HEADER), value, 0, length);
            }
            header[0] = (byte) kind;
            header[1] = (byte) key;
            header[2] = (byte) length;
            setNumber(header, 4, view.nextNumber);
            setNumber(header, 8, view.nextNumber);
            disk.write(disk.logCell(view.head), header, 0, HEADER);
            view.memory.set(key, kind & ~GOES_ON, view.nextNumber, view.head);
            view.head += HEADER + length;
            view.nextNumber++;
        }

        void makeCheckpoint() {
            disk.makeLasting();
            if (view.memory.count > 0) {
                taken = view.placesInUse();
                writeTable(0, view.memory, 0);
                boolean tooMany = view.tablesUpTo(0) > MOST_OF_LEVEL_0;
                for (int level = 1; level <= 2 && tooMany; level++) {
                    int replaced = view.tablesUpTo(level);
                    view.gatherTables(replaced, merged);
                    if (level == 2) {
                        merged.dropRemovals();
                    }
                    writeTable(level, merged, replaced);
                    tooMany = merged.count > MOST_IN_LEVEL_1;
                }
            }
            view.memory.clear();
            disk.makeLasting();
            view.checkpoint = view.head;
            view.checkpointNumber = view.nextNumber;
            writeRoot();
            disk.makeLasting();
        }

        private void writeTable(int level, Entries entries, int replaced) {
            if (entries.count == 0) {
                view.replaceNewest(replaced, false, 0);
                return;
            }
            int filter = 0;
            int at = TABLE_HEADER;
            for (int key = 0; key < KEYS; key++) {
                if (entries.kind[key] != NOTHING) {
                    page[at] = (byte) key;
                    page[at + 1] = (byte) entries.kind[key];
                    setNumber(page, at + 2, entries.where[key]);
                    setNumber(page, at + 6, entries.number[key]);
                    filter |= View.filterBits(key);
                    at += ENTRY_BYTES;
                }
            }
            page[0] = TABLE_MARK;
            page[1] = (byte) level;
            page[2] = (byte) entries.count;
            page[3] = 0;
            setNumber(page, 4, view.nextTable);
            setNumber(page, 8, filter);
            setNumber(page, 12, view.nextTable);
            int place = leastFreePlace();
            disk.write(disk.tableCell(place), page, 0, at);
            taken |= 1 << place;
            view.nextTable++;
            view.replaceNewest(replaced, true, place);
        }

        /** There is always one: at most five are in use at first, and three are written. */
        private int leastFreePlace() {
            int place = 0;
            while (place < PLACES - 1 && (taken >> place & 1) != 0) {
                place++;
            }
            return place;
        }

        private void writeRoot() {
            view.version++;
            for (int i = 0; i < ROOT_BYTES; i++) {
                page[i] = 0;
            }
            setNumber(page, 0, view.version);
            setNumber(page, 4, view.checkpoint);
            setNumber(page, 8, view.tail);
            setNumber(page, 12, view.checkpointNumber);
            setNumber(page, 16, view.nextTable);
            page[20] = (byte) view.tables;
            for (int i = 0; i < view.tables; i++) {
                page[ROOT_PLACES + i] = (byte) view.places[i];
            }
            setNumber(page, ROOT_END, view.version);
            int root = disk.rootCell(view.version);
            disk.write(root + ROOT_END, zeros, 0, 4);
            disk.write(root, page, 0, ROOT_END);
            disk.write(root + ROOT_END, page, ROOT_END, 4);
        }

        /** How many records were looked at. */
        int collectTail(int n) {
            if (view.checkpoint != view.head) {
                makeCheckpoint();
            }
            int end = view.head;
            int at = view.tail;
            int looked = 0;
            while (looked < n && at < end && !disk.down) {
                int key = disk.logByte(at + 1);
                int size = disk.recordSize(at);
                view.find(key, found);
                if (found.kind == VALUE && found.where == at) {
                    boolean roomInMemory = view.memory.has(key) || view.memory.count < MOST_IN_MEMORY;
                    if (!roomInMemory || !hasRoom(size)) {
                        break;
                    }
                    append(VALUE, key, moved, disk.copyValue(at, moved));
                }
                at += size;
                looked++;
            }
            disk.makeLasting();
            view.tail = at;
            if (looked > 0) {
                writeRoot();
                disk.makeLasting();
            }
            return looked;
        }

        private static void setNumber(byte[] row, int at, int number) {
            row[at] = (byte) (number >>> 24);
            row[at + 1] = (byte) (number >>> 16);
            row[at + 2] = (byte) (number >>> 8);
            row[at + 3] = (byte) number;
        }
    }
}
