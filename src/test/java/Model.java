import java.util.ArrayList;
import java.util.Arrays;
import java.util.LinkedHashSet;
import java.util.List;
import java.util.Map;
import java.util.TreeMap;

/**
 * The document once more, with lists, maps and a directory of references, and as near to its words
 * as it goes. It shares no code with the program, so that the two can be held against each other.
 */
public final class Model {
    private static final class Bucket {
        final int depth;
        final List<Integer> keys = new ArrayList<>();

        Bucket(int depth) {
            this.depth = depth;
        }
    }

    private final TreeMap<Integer, Integer> values = new TreeMap<>();
    private final List<Bucket> directory = new ArrayList<>();
    private final List<List<Integer>> linear = new ArrayList<>();
    private int g, v, p;
    private int capacity = 3, low = 30, high = 80;
    private int doublings, halvings, splits, merges, linearSplits;

    public Model() {
        begin();
    }

    private void begin() {
        values.clear();
        directory.clear();
        directory.add(new Bucket(0));
        linear.clear();
        linear.add(new ArrayList<>());
        g = 0;
        v = 0;
        p = 0;
    }

    private static void argument(boolean good) {
        if (!good) {
            throw new IllegalArgumentException();
        }
    }

    private static void index(boolean good) {
        if (!good) {
            throw new IndexOutOfBoundsException();
        }
    }

    private static void key(int key) {
        argument(key >= 0 && key <= 65535);
    }

    private static int power(int exponent) {
        return exponent == 0 ? 1 : 2 * power(exponent - 1);
    }

    private static int bit(int number, int bit) {
        return number / power(bit) % 2;
    }

    private static int hash(int key) {
        return (int) (key * 40503L % 65536L);
    }

    private int pages(List<Integer> keys) {
        int pages = 0;
        for (int rest = keys.size() - capacity; rest > 0; rest -= capacity) {
            pages++;
        }
        return pages;
    }

    private int reads(List<Integer> keys, int key) {
        int at = keys.indexOf(key);
        int read = 1;
        for (int end = capacity; at < 0 ? read <= pages(keys) : end <= at; end += capacity) {
            read++;
        }
        return read;
    }

    // ---- the store

    public int put(int key, int value) {
        key(key);
        argument(value >= 0 && value <= 999999);
        if (values.containsKey(key)) {
            return values.put(key, value);
        }
        if (values.size() == 120) {
            throw new IllegalStateException();
        }
        values.put(key, value);
        putExtendible(key);
        putLinear(key);
        return -1;
    }

    private void putExtendible(int key) {
        Bucket bucket = directory.get(slotOf(key));
        while (bucket.keys.size() >= capacity && bucket.depth < 8) {
            split(bucket);
            bucket = directory.get(slotOf(key));
        }
        bucket.keys.add(key);
    }

    private void split(Bucket bucket) {
        splits++;
        if (bucket.depth == g) {
            doublings++;
            g++;
            directory.addAll(new ArrayList<>(directory));
        }
        Bucket zero = new Bucket(bucket.depth + 1);
        Bucket one = new Bucket(bucket.depth + 1);
        for (int key : bucket.keys) {
            (bit(hash(key), bucket.depth) == 0 ? zero : one).keys.add(key);
        }
        for (int slot = 0; slot < directory.size(); slot++) {
            if (directory.get(slot) == bucket) {
                directory.set(slot, bit(slot, bucket.depth) == 0 ? zero : one);
            }
        }
    }

    private void putLinear(int key) {
        linear.get(linearBucketOf(key)).add(key);
        while (100 * values.size() > high * linear.size() * capacity) {
            List<Integer> stay = new ArrayList<>();
            List<Integer> go = new ArrayList<>();
            for (int moved : linear.get(p)) {
                (bit(hash(moved), v) == 0 ? stay : go).add(moved);
            }
            linear.set(p, stay);
            linear.add(go);
            linearSplits++;
            p++;
            if (p == power(v)) {
                v++;
                p = 0;
            }
        }
    }

    public int remove(int key) {
        key(key);
        if (!values.containsKey(key)) {
            return -1;
        }
        int value = values.remove(key);
        removeExtendible(key);
        removeLinear(key);
        return value;
    }

    private void removeExtendible(int key) {
        directory.get(slotOf(key)).keys.remove((Integer) key);
        while (true) {
            int slot = slotOf(key);
            Bucket bucket = directory.get(slot);
            if (bucket.depth == 0) {
                break;
            }
            int half = power(bucket.depth - 1);
            boolean isZero = bit(slot, bucket.depth - 1) == 0;
            Bucket buddy = directory.get(isZero ? slot + half : slot - half);
            if (buddy.depth != bucket.depth || bucket.keys.size() + buddy.keys.size() > capacity) {
                break;
            }
            merges++;
            Bucket both = new Bucket(bucket.depth - 1);
            both.keys.addAll((isZero ? bucket : buddy).keys);
            both.keys.addAll((isZero ? buddy : bucket).keys);
            directory.replaceAll(old -> old == bucket || old == buddy ? both : old);
        }
        while (g > 0 && directory.stream().noneMatch(bucket -> bucket.depth == g)) {
            halvings++;
            g--;
            directory.subList(power(g), directory.size()).clear();
        }
    }

    private void removeLinear(int key) {
        linear.get(linearBucketOf(key)).remove((Integer) key);
        while (linear.size() > 1 && 100 * values.size() < low * linear.size() * capacity) {
            if (p == 0) {
                v--;
                p = power(v);
            }
            p--;
            linear.get(p).addAll(linear.remove(linear.size() - 1));
            linearSplits--;
        }
    }

    public int get(int key) {
        key(key);
        return directory.get(slotOf(key)).keys.contains(key) ? values.get(key) : -1;
    }

    public int getByLinear(int key) {
        key(key);
        return linear.get(linearBucketOf(key)).contains(key) ? values.get(key) : -1;
    }

    public int size() {
        return values.size();
    }

    public int clear() {
        int before = values.size();
        begin();
        return before;
    }

    public int rebuild(int capacity) {
        argument(capacity >= 1 && capacity <= 5);
        int before = this.capacity;
        TreeMap<Integer, Integer> old = new TreeMap<>(values);
        begin();
        this.capacity = capacity;
        for (Map.Entry<Integer, Integer> entry : old.entrySet()) {
            put(entry.getKey(), entry.getValue());
        }
        return before;
    }

    public int setLoads(int low, int high) {
        argument(low >= 0 && low <= 50 && high >= 50 && high <= 200 && low <= high / 2.0);
        int before = this.high;
        this.low = low;
        this.high = high;
        return before;
    }

    public int hashOf(int key) {
        key(key);
        return hash(key);
    }

    // ---- the extendible table

    public int globalDepth() {
        return g;
    }

    public int buckets() {
        return new LinkedHashSet<>(directory).size();
    }

    private Bucket bucket(int slot) {
        index(slot >= 0 && slot < directory.size());
        return directory.get(slot);
    }

    public int localDepth(int slot) {
        return bucket(slot).depth;
    }

    public int bucketSize(int slot) {
        return bucket(slot).keys.size();
    }

    public int keyAt(int slot, int place) {
        List<Integer> keys = bucket(slot).keys;
        index(place >= 0 && place < keys.size());
        return keys.get(place);
    }

    public int slotOf(int key) {
        key(key);
        return hash(key) % power(g);
    }

    public int buddyOf(int slot) {
        Bucket bucket = bucket(slot);
        if (bucket.depth == 0) {
            return -1;
        }
        int half = power(bucket.depth - 1);
        Bucket buddy = directory.get(bit(slot, bucket.depth - 1) == 0 ? slot + half : slot - half);
        return buddy.depth > bucket.depth ? -1 : directory.indexOf(buddy);
    }

    public int overflowPages() {
        return new LinkedHashSet<>(directory).stream().mapToInt(bucket -> pages(bucket.keys)).sum();
    }

    public int probes(int key) {
        key(key);
        return reads(directory.get(slotOf(key)).keys, key);
    }

    public int doublings() {
        return doublings;
    }

    public int halvings() {
        return halvings;
    }

    public int splits() {
        return splits;
    }

    public int merges() {
        return merges;
    }

    // ---- scanning the extendible table

    public int slotAt(int cursor) {
        argument(cursor >= 0 && cursor <= 255);
        return cursor % power(g);
    }

    public int nextCursor(int cursor) {
        int depth = localDepth(slotAt(cursor));
        StringBuilder signs = new StringBuilder();
        for (int bit = 0; bit < depth; bit++) {
            signs.append(bit(cursor, bit));
        }
        int behind = (depth == 0 ? 0 : Integer.parseInt(signs.toString(), 2)) + 1;
        if (behind == power(depth)) {
            return 0;
        }
        char[] reversed = new char[depth];
        Arrays.fill(reversed, '0');
        for (int bit = 0; bit < depth; bit++) {
            reversed[bit] = (char) ('0' + bit(behind, bit));
        }
        return Integer.parseInt(new String(reversed), 2);
    }

    // ---- the linear table

    public int linearBuckets() {
        return linear.size();
    }

    public int level() {
        return v;
    }

    public int pointer() {
        return p;
    }

    private List<Integer> linearBucket(int bucket) {
        index(bucket >= 0 && bucket < linear.size());
        return linear.get(bucket);
    }

    public int linearSize(int bucket) {
        return linearBucket(bucket).size();
    }

    public int linearKeyAt(int bucket, int place) {
        List<Integer> keys = linearBucket(bucket);
        index(place >= 0 && place < keys.size());
        return keys.get(place);
    }

    public int linearBucketOf(int key) {
        key(key);
        int a = hash(key) % power(v);
        return a >= p ? a : hash(key) % power(v + 1);
    }

    public int linearOverflowPages() {
        return linear.stream().mapToInt(this::pages).sum();
    }

    public int linearProbes(int key) {
        key(key);
        return reads(linear.get(linearBucketOf(key)), key);
    }

    public int load() {
        return 100 * values.size() / (linear.size() * capacity);
    }

    public int linearSplits() {
        return linearSplits;
    }
}
