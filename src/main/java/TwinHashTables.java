/**
 * A store of values under keys that keeps two hash tables side by side: an extendible one, whose
 * directory doubles and halves, and a linear one, whose buckets are split one after the other.
 */
public final class TwinHashTables {
    private static final int MAX_KEY = 65535;
    private static final int MAX_VALUE = 999999;
    private static final int MAX_KEYS = 120;
    private static final int MAX_CAPACITY = 5;
    private static final int MAX_DEPTH = 8;
    private static final int MAX_CURSOR = 255;
    private static final int MIN_HIGH_LOAD = 50;
    private static final int MAX_HIGH_LOAD = 200;
    private static final int MAX_LOW_LOAD = 50;
    private static final int HASH_FACTOR = 40503;
    private static final int HASH_BITS = 16;

    // The directory has at most 256 slots. The linear table has at most 240 buckets: with 120 keys,
    // the capacity 1 and the high load 50 it stops splitting there.
    private static final int MAX_ROWS = 256;

    // Entries are numbered from 1, so that new arrays, being all 0, are empty chains.
    private static final int NO_ENTRY = 0;
    private static final int ABSENT = -1;

    private final Store store;
    private final Extendible extendible;
    private final Linear linear;

    public TwinHashTables() {
        store = new Store();
        extendible = new Extendible(store);
        linear = new Linear(store);
    }

    // ---- the store

    public int put(int key, int value) throws IllegalArgumentException, IllegalStateException {
        checkKey(key);
        checkRange(value, 0, MAX_VALUE);
        int entry = extendible.find(key);
        if (entry != NO_ENTRY) {
            return store.replaceValue(entry, value);
        }
        if (store.taken >= MAX_KEYS) {
            throw new IllegalStateException("the store is full");
        }
        insertIntoBoth(store.take(key, value));
        return ABSENT;
    }

    public int remove(int key) throws IllegalArgumentException {
        checkKey(key);
        int entry = extendible.find(key);
        if (entry == NO_ENTRY) {
            return ABSENT;
        }
        store.release(entry);
        extendible.delete(entry);
        linear.delete(entry);
        return store.valueOf(entry);
    }

    public int get(int key) throws IllegalArgumentException {
        checkKey(key);
        return valueOrAbsent(extendible.find(key));
    }

    public int getByLinear(int key) throws IllegalArgumentException {
        checkKey(key);
        return valueOrAbsent(linear.find(key));
    }

    public int size() {
        return store.taken;
    }

    public int clear() {
        int before = store.taken;
        emptyAll();
        return before;
    }

    public int rebuild(int capacity) throws IllegalArgumentException {
        checkRange(capacity, 1, MAX_CAPACITY);
        int capacityBefore = store.capacity;
        int keys = store.taken;
        emptyAll();
        store.capacity = capacity;
        for (int place = 0; place < keys; place++) {
            insertIntoBoth(store.takeAgain());
        }
        return capacityBefore;
    }

    public int setLoads(int low, int high) throws IllegalArgumentException {
        checkRange(high, MIN_HIGH_LOAD, MAX_HIGH_LOAD);
        checkRange(low, 0, Math.min(MAX_LOW_LOAD, high / 2));
        int highBefore = linear.highLoad;
        linear.lowLoad = low;
        linear.highLoad = high;
        return highBefore;
    }

    public int hashOf(int key) throws IllegalArgumentException {
        checkKey(key);
        return hash(key);
    }

    // ---- the extendible table

    public int globalDepth() {
        return extendible.depth;
    }

    public int buckets() {
        return extendible.countBuckets();
    }

    public int localDepth(int slot) throws IndexOutOfBoundsException {
        checkSlot(slot);
        return extendible.depthAt(slot);
    }

    public int bucketSize(int slot) throws IndexOutOfBoundsException {
        checkSlot(slot);
        return extendible.rows.count(extendible.rowAt(slot));
    }

    public int keyAt(int slot, int place) throws IndexOutOfBoundsException {
        checkSlot(slot);
        return keyOfRow(extendible.rows, extendible.rowAt(slot), place);
    }

    public int slotOf(int key) throws IllegalArgumentException {
        checkKey(key);
        return extendible.slotFor(key);
    }

    public int buddyOf(int slot) throws IndexOutOfBoundsException {
        checkSlot(slot);
        return extendible.buddyAt(slot);
    }

    public int overflowPages() {
        return extendible.rows.countOverflow(extendible.countSlots());
    }

    public int probes(int key) throws IllegalArgumentException {
        checkKey(key);
        return extendible.rows.pagesRead(extendible.rowFor(key), key);
    }

    public int doublings() {
        return extendible.doublingCount;
    }

    public int halvings() {
        return extendible.halvingCount;
    }

    public int splits() {
        return extendible.splitCount;
    }

    public int merges() {
        return extendible.mergeCount;
    }

    // ---- scanning the extendible table

    public int slotAt(int cursor) throws IllegalArgumentException {
        checkRange(cursor, 0, MAX_CURSOR);
        return lowBits(cursor, extendible.depth);
    }

    public int nextCursor(int cursor) throws IllegalArgumentException {
        checkRange(cursor, 0, MAX_CURSOR);
        int bits = extendible.depthAt(lowBits(cursor, extendible.depth));
        int behind = reverseBits(cursor, bits) + 1;
        return behind == 1 << bits ? 0 : reverseBits(behind, bits);
    }

    // ---- the linear table

    public int linearBuckets() {
        return linear.countBuckets();
    }

    public int level() {
        return linear.level;
    }

    public int pointer() {
        return linear.pointer;
    }

    public int linearSize(int bucket) throws IndexOutOfBoundsException {
        checkIndex(bucket, linear.countBuckets());
        return linear.rows.count(bucket);
    }

    public int linearKeyAt(int bucket, int place) throws IndexOutOfBoundsException {
        checkIndex(bucket, linear.countBuckets());
        return keyOfRow(linear.rows, bucket, place);
    }

    public int linearBucketOf(int key) throws IllegalArgumentException {
        checkKey(key);
        return linear.rowFor(key);
    }

    public int linearOverflowPages() {
        return linear.rows.countOverflow(linear.countBuckets());
    }

    public int linearProbes(int key) throws IllegalArgumentException {
        checkKey(key);
        return linear.rows.pagesRead(linear.rowFor(key), key);
    }

    public int load() {
        int room = linear.countBuckets() * store.capacity;
        return room > 0 ? 100 * store.taken / room : 0;
    }

    public int linearSplits() {
        return linear.splitBalance;
    }

    // ---- what the calls share

    private void insertIntoBoth(int entry) {
        extendible.insert(entry);
        linear.insert(entry);
    }

    private void emptyAll() {
        store.releaseAll();
        extendible.reset();
        linear.reset();
    }

    private int valueOrAbsent(int entry) {
        return entry == NO_ENTRY ? ABSENT : store.valueOf(entry);
    }

    private int keyOfRow(Rows rows, int row, int place) {
        checkIndex(place, rows.count(row));
        return store.keyOf(rows.entryAt(row, place));
    }

    private void checkSlot(int slot) {
        checkIndex(slot, extendible.countSlots());
    }

    private static void checkKey(int key) {
        checkRange(key, 0, MAX_KEY);
    }

    private static void checkRange(int number, int least, int most) {
        if (number < least || number > most) {
            throw new IllegalArgumentException("out of range");
        }
    }

    private static void checkIndex(int index, int count) {
        if (index < 0 || index >= count) {
            throw new IndexOutOfBoundsException("there is none with this number");
        }
    }

    // The product may wrap around; its lowest 16 bits are right all the same.
    private static int hash(int key) {
        return lowBits(key * HASH_FACTOR, HASH_BITS);
    }

    private static int lowBits(int number, int bits) {
        return number & ((1 << bits) - 1);
    }

    private static int bitAt(int number, int bit) {
        return (number >> bit) & 1;
    }

    private static int reverseBits(int number, int bits) {
        int reversed = 0;
        for (int bit = 0; bit < bits; bit++) {
            reversed = 2 * reversed + bitAt(number, bit);
        }
        return reversed;
    }

    private static boolean isRow(int row) {
        return row >= 0 && row < MAX_ROWS;
    }

    private static boolean isEntry(int entry) {
        return entry > NO_ENTRY && entry <= MAX_KEYS;
    }

    /** What both tables share: the keys with their values, numbered as entries, and the capacity. */
    private static final class Store {
        private final int[] keys = new int[MAX_KEYS + 1];
        private final int[] values = new int[MAX_KEYS + 1];

        // All entries, each one once: first those in use, by rising keys, then the free ones.
        // So rebuilding needs no sorting, and clearing gives every entry back at once.
        private final int[] order = new int[MAX_KEYS];
        private int taken = 0;
        private int capacity = 3;

        Store() {
            for (int place = 0; place < MAX_KEYS; place++) {
                order[place] = place + 1;
            }
        }

        int keyOf(int entry) {
            return isEntry(entry) ? keys[entry] : 0;
        }

        int valueOf(int entry) {
            return isEntry(entry) ? values[entry] : 0;
        }

        int replaceValue(int entry, int value) {
            int before = valueOf(entry);
            if (isEntry(entry)) {
                values[entry] = value;
            }
            return before;
        }

        int take(int key, int value) {
            if (taken < 0 || taken >= MAX_KEYS) {
                return NO_ENTRY;
            }
            int entry = order[taken];
            if (!isEntry(entry)) {
                return NO_ENTRY;
            }
            keys[entry] = key;
            values[entry] = value;
            int place = taken;
            for (; place > 0 && keyOf(order[place - 1]) > key; place--) {
                order[place] = order[place - 1];
            }
            order[place] = entry;
            taken++;
            return entry;
        }

        // After releaseAll() the entries still stand in order, by rising keys: they come back one by one.
        int takeAgain() {
            if (taken < 0 || taken >= MAX_KEYS) {
                return NO_ENTRY;
            }
            int entry = order[taken];
            taken++;
            return entry;
        }

        // The entry keeps its key and value until it is taken anew.
        void release(int entry) {
            int end = taken - 1;
            if (end < 0 || end >= MAX_KEYS) {
                return;
            }
            int place = 0;
            while (place < end && order[place] != entry) {
                place++;
            }
            for (; place < end; place++) {
                order[place] = order[place + 1];
            }
            order[end] = entry;
            taken = end;
        }

        void releaseAll() {
            taken = 0;
        }
    }

    /** The buckets of one table: rows of entries, each a chain from the first to the last one. */
    private static final class Rows {
        private final Store store;
        private final int[] first = new int[MAX_ROWS];
        private final int[] last = new int[MAX_ROWS];
        private final int[] counts = new int[MAX_ROWS];
        private final int[] next = new int[MAX_KEYS + 1];

        Rows(Store store) {
            this.store = store;
        }

        int count(int row) {
            return isRow(row) ? counts[row] : 0;
        }

        int entryAt(int row, int place) {
            int entry = firstOf(row);
            for (int passed = 0; passed < place; passed++) {
                entry = after(entry);
            }
            return entry;
        }

        int find(int row, int key) {
            int place = placeOf(row, key);
            return place == ABSENT ? NO_ENTRY : entryAt(row, place);
        }

        void append(int row, int entry) {
            if (!isRow(row) || !isEntry(entry)) {
                return;
            }
            int end = last[row];
            if (isEntry(end)) {
                next[end] = entry;
            } else {
                first[row] = entry;
            }
            next[entry] = NO_ENTRY;
            last[row] = entry;
            counts[row]++;
        }

        void unlink(int row, int entry) {
            if (!isRow(row) || !isEntry(entry)) {
                return;
            }
            int before = entryBefore(row, entry);
            if (isEntry(before)) {
                next[before] = next[entry];
            } else {
                first[row] = next[entry];
            }
            if (last[row] == entry) {
                last[row] = before;
            }
            counts[row]--;
        }

        /** Moves all entries of a row, in their order, behind those of another one. */
        void pour(int from, int to) {
            // Any bit does: both ways lead to the same row.
            deal(from, to, to, 0);
        }

        /** Moves all entries of a row, in their order, to one of two rows, by a bit of their hashes. */
        void deal(int from, int toIfZero, int toIfOne, int bit) {
            int dealt = count(from);
            int entry = firstOf(from);
            empty(from);
            for (int place = 0; place < dealt; place++) {
                int behind = after(entry);
                append(bitAt(hash(store.keyOf(entry)), bit) == 0 ? toIfZero : toIfOne, entry);
                entry = behind;
            }
        }

        void emptyAllRows() {
            for (int row = 0; row < MAX_ROWS; row++) {
                empty(row);
            }
        }

        int countOverflow(int rows) {
            int pages = 0;
            for (int row = 0; row < rows; row++) {
                pages += pageOf(count(row) - 1);
            }
            return pages;
        }

        int pagesRead(int row, int key) {
            int place = placeOf(row, key);
            return 1 + pageOf(place == ABSENT ? count(row) - 1 : place);
        }

        // Page 0 is the bucket itself; a row without keys ends there too, at the place -1.
        private int pageOf(int place) {
            return place > 0 && store.capacity > 0 ? place / store.capacity : 0;
        }

        private int placeOf(int row, int key) {
            int inRow = count(row);
            int entry = firstOf(row);
            for (int place = 0; place < inRow; place++) {
                if (store.keyOf(entry) == key) {
                    return place;
                }
                entry = after(entry);
            }
            return ABSENT;
        }

        private int entryBefore(int row, int entry) {
            int before = NO_ENTRY;
            int walker = firstOf(row);
            int inRow = count(row);
            for (int place = 0; place < inRow && walker != entry; place++) {
                before = walker;
                walker = after(walker);
            }
            return before;
        }

        private int firstOf(int row) {
            return isRow(row) ? first[row] : NO_ENTRY;
        }

        private int after(int entry) {
            return isEntry(entry) ? next[entry] : NO_ENTRY;
        }

        private void empty(int row) {
            if (isRow(row)) {
                first[row] = NO_ENTRY;
                last[row] = NO_ENTRY;
                counts[row] = 0;
            }
        }
    }

    /** The extendible table. A bucket's row has the number of the lowest slot that shares it. */
    private static final class Extendible {
        private final Store store;
        private final Rows rows;
        // For each slot the local depth of its bucket: with it, the slot tells the bucket.
        private final int[] localDepths = new int[MAX_ROWS];
        private int depth = 0;
        private int doublingCount = 0;
        private int halvingCount = 0;
        private int splitCount = 0;
        private int mergeCount = 0;

        Extendible(Store store) {
            this.store = store;
            this.rows = new Rows(store);
        }

        int countSlots() {
            return 1 << depth;
        }

        int countBuckets() {
            int slots = countSlots();
            int found = 0;
            for (int slot = 0; slot < slots; slot++) {
                if (rowAt(slot) == slot) {
                    found++;
                }
            }
            return found;
        }

        int depthAt(int slot) {
            return isRow(slot) ? localDepths[slot] : 0;
        }

        int slotFor(int key) {
            return lowBits(hash(key), depth);
        }

        int rowAt(int slot) {
            return lowBits(slot, depthAt(slot));
        }

        int rowFor(int key) {
            return rowAt(slotFor(key));
        }

        int find(int key) {
            return rows.find(rowFor(key), key);
        }

        int buddyAt(int slot) {
            int local = depthAt(slot);
            if (local <= 0) {
                return ABSENT;
            }
            int buddy = lowBits(slot, local) ^ (1 << (local - 1));
            return depthAt(buddy) == local ? buddy : ABSENT;
        }

        void insert(int entry) {
            int key = store.keyOf(entry);
            int local = depthAt(slotFor(key));
            for (; local < MAX_DEPTH && rows.count(rowFor(key)) >= store.capacity; local++) {
                splitBucket(rowFor(key), local);
            }
            rows.append(rowFor(key), entry);
        }

        void delete(int entry) {
            int key = store.keyOf(entry);
            rows.unlink(rowFor(key), entry);
            int local = depthAt(slotFor(key));
            for (; local > 0 && canMerge(rowFor(key)); local--) {
                mergeBuckets(lowBits(hash(key), local - 1), local - 1);
            }
            halveWhilePossible();
        }

        // The depths of the slots beyond the first one are written anew when the directory doubles.
        void reset() {
            depth = 0;
            setDepth(0, 0);
            rows.emptyAllRows();
        }

        private void splitBucket(int row, int local) {
            if (local == depth) {
                doubleDirectory();
            }
            setDepths(row, local, local + 1);
            rows.deal(row, row, row + (1 << local), local);
            splitCount++;
        }

        private boolean canMerge(int row) {
            int buddy = buddyAt(row);
            return buddy != ABSENT && rows.count(row) + rows.count(buddy) <= store.capacity;
        }

        // The row that stays is that of the bucket whose bit is 0.
        private void mergeBuckets(int row, int local) {
            setDepths(row, local, local);
            rows.pour(row + (1 << local), row);
            mergeCount++;
        }

        private void doubleDirectory() {
            int slots = countSlots();
            for (int slot = 0; slot < slots; slot++) {
                setDepth(slot + slots, depthAt(slot));
            }
            depth++;
            doublingCount++;
        }

        private void halveWhilePossible() {
            for (int deepest = depth; deepest > 0 && !hasDepth(deepest); deepest--) {
                depth = deepest - 1;
                halvingCount++;
            }
        }

        private boolean hasDepth(int local) {
            int slots = countSlots();
            for (int slot = 0; slot < slots; slot++) {
                if (depthAt(slot) == local) {
                    return true;
                }
            }
            return false;
        }

        /** Sets the local depth of all slots that have the same lowest bits as a row. */
        private void setDepths(int row, int bits, int local) {
            int slots = countSlots();
            for (int slot = row; slot < slots; slot++) {
                if (lowBits(slot, bits) == row) {
                    setDepth(slot, local);
                }
            }
        }

        private void setDepth(int slot, int local) {
            if (isRow(slot)) {
                localDepths[slot] = local;
            }
        }
    }

    /** The linear table. A bucket's row has the bucket's number. */
    private static final class Linear {
        private final Store store;
        private final Rows rows;
        private int level = 0;
        private int pointer = 0;
        private int lowLoad = 30;
        private int highLoad = 80;
        private int splitBalance = 0;

        Linear(Store store) {
            this.store = store;
            this.rows = new Rows(store);
        }

        int countBuckets() {
            return (1 << level) + pointer;
        }

        int rowFor(int key) {
            int row = lowBits(hash(key), level);
            return row >= pointer ? row : lowBits(hash(key), level + 1);
        }

        int find(int key) {
            return rows.find(rowFor(key), key);
        }

        void insert(int entry) {
            rows.append(rowFor(store.keyOf(entry)), entry);
            int buckets = countBuckets();
            for (; buckets < MAX_ROWS && 100 * store.taken > fullAt(highLoad, buckets); buckets++) {
                splitNext();
            }
        }

        void delete(int entry) {
            rows.unlink(rowFor(store.keyOf(entry)), entry);
            int buckets = countBuckets();
            for (; buckets > 1 && 100 * store.taken < fullAt(lowLoad, buckets); buckets--) {
                takeBackSplit();
            }
        }

        void reset() {
            level = 0;
            pointer = 0;
            rows.emptyAllRows();
        }

        // What 100 times the keys come to when the buckets have just this load.
        private int fullAt(int percent, int buckets) {
            return percent * buckets * store.capacity;
        }

        private void splitNext() {
            rows.deal(pointer, pointer, countBuckets(), level);
            pointer++;
            if (pointer == 1 << level) {
                level++;
                pointer = 0;
            }
            splitBalance++;
        }

        private void takeBackSplit() {
            if (pointer == 0) {
                level--;
                pointer = 1 << level;
            }
            pointer--;
            rows.pour(countBuckets(), pointer);
            splitBalance--;
        }
    }
}
