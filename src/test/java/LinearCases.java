import java.util.List;

/** The sentences of the promises 26 to 35. */
final class LinearCases extends Cases {
    private static final String KEYS = "- `key`: 0 to 65535";
    private static final String KEY_OUT_OF_RANGE = "Throws `IllegalArgumentException` if key is out of range";

    LinearCases(Ledger ledger) {
        super(ledger);
    }

    @Override
    void check() {
        section("Promise 26");
        test(this::buckets);
        section("Promise 27");
        test(this::levels);
        section("Promise 28");
        test(this::pointers);
        section("Promise 29");
        test(this::sizes);
        test(this::sizeRefuses);
        section("Promise 30");
        test(this::keysOfBuckets);
        test(this::firstPlace);
        test(this::keyAtRefuses);
        section("Promise 31");
        test(this::bucketsOfKeys);
        test(this::bucketOfTakesKeys);
        test(this::bucketOfRefusesKeys);
        section("Promise 32");
        test(this::overflow);
        section("Promise 33");
        test(this::pagesRead);
        test(this::probesTakesKeys);
        test(this::probesRefusesKeys);
        section("Promise 34");
        test(this::loads);
        section("Promise 35");
        test(this::splits);
    }

    // ---- Promises 26 to 28: the shape

    private void buckets() {
        sentence("Returns how many buckets the linear table has.");
        TwinHashTables x = new TwinHashTables();
        due("one at first", x.linearBuckets(), 1);
        put(x, 0, 1);
        due("200 of 80 * 3", x.linearBuckets(), 1);
        put(x, 2);
        due("300 of 80 * 3", x.linearBuckets(), 2);
        put(x, 3, 4);
        due("500 of 80 * 6", x.linearBuckets(), 3);
        remove(x, 0, 1, 2);
        due("200 of 30 * 9", x.linearBuckets(), 2);
        remove(x, 3, 4);
        due("never none", x.linearBuckets(), 1);
        x.rebuild(1);
        x.setLoads(0, 50);
        put(x, upTo(120));
        due("the most", x.linearBuckets(), 240);
        x.clear();
        due("cleared", x.linearBuckets(), 1);
    }

    private void levels() {
        sentence("Returns the level.");
        TwinHashTables x = new TwinHashTables();
        due("0 at first", x.level(), 0);
        put(x, 0, 1, 2);
        due("two buckets", x.level(), 1);
        put(x, 3, 4);
        due("three buckets", x.level(), 1);
        put(x, 5, 6, 7);
        due("four buckets", x.level(), 2);
        remove(x, 0, 1, 2, 3, 4);
        due("three keys, 300 of 30 * 12: three buckets", x.level(), 1);
        remove(x, 5, 6);
        due("one key: 100 of 30 * 6: one bucket", x.level(), 0);
        remove(x, 7);
        due("0 does not fall", x.level(), 0);
        x.rebuild(1);
        x.setLoads(0, 50);
        put(x, upTo(120));
        due("240 buckets", x.level(), 7);
        x.clear();
        due("cleared", x.level(), 0);
    }

    private void pointers() {
        sentence("Returns the pointer.");
        TwinHashTables x = new TwinHashTables();
        due("0 at first", x.pointer(), 0);
        put(x, 0, 1, 2);
        due("1 is 2 to the power of 0, so 0", x.pointer(), 0);
        put(x, 3, 4);
        due("three buckets", x.pointer(), 1);
        put(x, 5, 6, 7);
        due("2 is 2 to the power of 1, so 0", x.pointer(), 0);
        put(x, hashes(7, i -> 8 + i));
        due("seven buckets", x.pointer(), 3);
        x.setLoads(50, 200);
        remove(x, hashes(5, i -> i));
        due("ten keys, 1000 of 50 * 21: six buckets", x.pointer(), 2);
        remove(x, hashes(5, i -> 5 + i));
        due("five keys, 500 of 50 * 12: three buckets", x.pointer(), 1);
        x.rebuild(1);
        x.setLoads(0, 50);
        put(x, upTo(120));
        due("240 buckets", x.pointer(), 112);
        x.clear();
        due("cleared", x.pointer(), 0);
    }

    // ---- Promises 29 and 30: buckets

    private void sizes() {
        sentence("Returns how many keys a bucket of the linear table has.");
        TwinHashTables x = new TwinHashTables();
        due("none", x.linearSize(0), 0);
        put(x, 0, 2);
        due("two", x.linearSize(0), 2);
        put(x, 4);
        due("an empty one beside it", answers(2, x::linearSize), List.of(3, 0));
        put(x, 1, 6);
        due("split by bit 1", answers(3, x::linearSize), List.of(2, 1, 2));
        TwinHashTables most = with(alike(120));
        due("all keys in the first of 50", List.of(most.linearBuckets(), most.linearSize(0), most.linearSize(49)),
            List.of(50, 120, 0));
        most.clear();
        due("cleared", most.linearSize(0), 0);
        TwinHashTables other = new TwinHashTables();
        other.setLoads(0, 200);
        put(other, 0, 1, 2, 3);
        due("not those of the other table", List.of(other.linearSize(0), other.bucketSize(0)), List.of(4, 2));
    }

    private void sizeRefuses() {
        sentence("Throws `IndexOutOfBoundsException` if there is no such bucket");
        refusesLinearBuckets(TwinHashTables::linearSize);
        TwinHashTables x = with(upTo(7));
        due("the last one of three", x.linearSize(2), 2);
        thrown("bucket 3", INDEX, x, y -> y.linearSize(3));
        put(x, 7);
        due("the last one of four", x.linearSize(3), 2);
        remove(x, upTo(7));
        thrown("bucket 1, taken back", INDEX, x, y -> y.linearSize(1));
        x.setLoads(0, 50);
        x.rebuild(1);
        put(x, hashes(119, i -> 100 + i));
        due("the last one of 240", x.linearSize(239), 0);
        thrown("bucket 240", INDEX, x, y -> y.linearSize(240));
    }

    private void keysOfBuckets() {
        sentence("Returns a key of a bucket of the linear table.");
        TwinHashTables x = with(6, 5, 4, 3, 2, 1, 0);
        due("three buckets", List.of(x.linearKeyAt(0, 0), x.linearKeyAt(0, 1), x.linearKeyAt(1, 0), x.linearKeyAt(1, 2),
            x.linearKeyAt(2, 0), x.linearKeyAt(2, 1)), List.of(key(4), key(0), key(5), key(1), key(6), key(2)));
        TwinHashTables most = with(alike(120));
        due("the last one of 120", List.of(most.linearKeyAt(0, 0), most.linearKeyAt(0, 119)), List.of(key(0), key(256 * 119)));
        TwinHashTables other = new TwinHashTables();
        other.setLoads(0, 200);
        put(other, 0, 1, 2, 3);
        due("not those of the other table", List.of(other.linearKeyAt(0, 1), other.linearKeyAt(0, 3), other.keyAt(0, 1)),
            List.of(key(1), key(3), key(2)));
    }

    private void firstPlace() {
        sentence("- `place`: 0 for the first key");
        TwinHashTables x = with(4, 0, 2);
        due("first, second, last", List.of(x.linearKeyAt(0, 0), x.linearKeyAt(0, 1), x.linearKeyAt(0, 2)),
            List.of(key(4), key(0), key(2)));
        remove(x, 4);
        due("moved up", List.of(x.linearKeyAt(0, 0), x.linearKeyAt(0, 1)), List.of(key(0), key(2)));
        TwinHashTables one = with(65535);
        due("the only one", one.linearKeyAt(0, 0), key(65535));
    }

    private void keyAtRefuses() {
        sentence("Throws `IndexOutOfBoundsException` if there is no such bucket, or it has no such key");
        refusesLinearBuckets((x, bucket) -> x.linearKeyAt(bucket, 0));
        refusesIndexes(TwinHashTables::new, 0, (x, place) -> x.linearKeyAt(0, place));
        refusesIndexes(Cases::few, 2, (x, place) -> x.linearKeyAt(0, place));
        refusesIndexes(Cases::few, 1, (x, place) -> x.linearKeyAt(4, place));
        refusesIndexes(Cases::deep, 5, (x, place) -> x.linearKeyAt(0, place));
        refused(INDEX, Cases::few, x -> x.linearKeyAt(-1, -1), x -> x.linearKeyAt(5, 1), x -> x.linearKeyAt(MAX, MAX),
            x -> x.linearKeyAt(MIN, MIN));
        TwinHashTables x = with(0, 2, 4);
        remove(x, 0);
        thrown("the place of a key that moved up", INDEX, x, y -> y.linearKeyAt(0, 2));
    }

    // ---- Promise 31: linearBucketOf

    private void bucketsOfKeys() {
        sentence("Returns the bucket of the linear table of a key, be it in the store or not.");
        TwinHashTables x = new TwinHashTables();
        due("the only one", List.of(x.linearBucketOf(key(0)), x.linearBucketOf(key(65535))), List.of(0, 0));
        put(x, upTo(5));
        due("three", answers(8, hash -> x.linearBucketOf(key(hash))), List.of(0, 1, 2, 1, 0, 1, 2, 1));
        TwinHashTables most = new TwinHashTables();
        most.rebuild(1);
        most.setLoads(0, 50);
        put(most, upTo(120));
        due("240: the last one before the pointer, and the pointer", List.of(most.linearBucketOf(key(111)),
            most.linearBucketOf(key(239)), most.linearBucketOf(key(112)), most.linearBucketOf(key(240)),
            most.linearBucketOf(key(255)), most.linearBucketOf(key(128)), most.linearBucketOf(key(65535))),
            List.of(111, 239, 112, 112, 127, 128, 127));
    }

    private void bucketOfTakesKeys() {
        sentence(KEYS);
        due("the only one", List.of(with().linearBucketOf(0), with().linearBucketOf(65535)), List.of(0, 0));
        TwinHashTables x = with(upTo(10));
        due("25033 ends with the bits 001 of five buckets", List.of(x.linearBucketOf(0), x.linearBucketOf(65535)), List.of(0, 1));
    }

    private void bucketOfRefusesKeys() {
        sentence(KEY_OUT_OF_RANGE);
        refusesKeys(TwinHashTables::linearBucketOf);
    }

    // ---- Promises 32 and 33: pages

    private void overflow() {
        sentence("Returns how many overflow pages the buckets of the linear table have, together.");
        TwinHashTables x = new TwinHashTables();
        due("none", x.linearOverflowPages(), 0);
        x.setLoads(0, 200);
        put(x, 0, 2, 4);
        due("just the capacity", x.linearOverflowPages(), 0);
        put(x, 1);
        due("one key beyond", x.linearOverflowPages(), 1);
        put(x, 3, 5);
        due("one page, full", x.linearOverflowPages(), 1);
        put(x, 6);
        due("of 4 and 3 keys", List.of(x.linearBuckets(), x.linearOverflowPages()), List.of(2, 1));
        put(x, 7);
        due("of 4 and 4 keys", List.of(x.linearBuckets(), x.linearOverflowPages()), List.of(2, 2));
        put(x, 9, 11, 13);
        due("of 4 and 7 keys", List.of(x.linearBuckets(), x.linearOverflowPages()), List.of(2, 3));
        remove(x, 0, 2, 4, 6);
        due("an empty one makes up for nothing", List.of(x.linearBuckets(), x.linearOverflowPages()), List.of(2, 2));
        TwinHashTables most = new TwinHashTables();
        most.rebuild(1);
        put(most, alike(120));
        due("119", most.linearOverflowPages(), 119);
        most.rebuild(5);
        due("23", most.linearOverflowPages(), 23);
        most.clear();
        due("cleared", most.linearOverflowPages(), 0);
    }

    private void pagesRead() {
        sentence("Returns how many pages of the linear table are read to find a key, as told by probes() for the other table.");
        TwinHashTables x = with(alike(7));
        due("the bucket, its pages", answers(7, number -> x.linearProbes(key(256 * number))), List.of(1, 1, 1, 2, 2, 2, 3));
        due("all of them", x.linearProbes(key(1792)), 3);
        remove(x, 1536);
        due("all of them, with a full page", x.linearProbes(key(1792)), 2);
        due("an empty bucket", List.of(x.linearProbes(key(1)), new TwinHashTables().linearProbes(key(1))), List.of(1, 1));
        TwinHashTables one = new TwinHashTables();
        one.rebuild(1);
        put(one, alike(3));
        due("the capacity 1", answers(4, number -> one.linearProbes(key(256 * number))), List.of(1, 2, 3, 3));
        TwinHashTables full = with(0, 2, 4);
        due("a full bucket without overflow", List.of(full.linearProbes(key(4)), full.linearProbes(key(6))), List.of(1, 1));
        remove(x, 0);
        due("moved up to the bucket", List.of(x.linearProbes(key(768)), x.linearProbes(key(1024))), List.of(1, 2));
        TwinHashTables other = new TwinHashTables();
        other.setLoads(0, 200);
        put(other, 0, 1, 2, 3);
        due("not the pages of the other table", List.of(other.linearProbes(key(3)), other.probes(key(3))), List.of(2, 1));
    }

    private void probesTakesKeys() {
        sentence(KEYS);
        TwinHashTables x = new TwinHashTables();
        due("absent", List.of(x.linearProbes(0), x.linearProbes(65535)), List.of(1, 1));
        x.setLoads(0, 200);
        put(x, 1, 2, 3);
        x.put(0, 1);
        x.put(65535, 1);
        due("the least and the greatest, behind three", List.of(x.linearProbes(0), x.linearProbes(65535)), List.of(2, 2));
    }

    private void probesRefusesKeys() {
        sentence(KEY_OUT_OF_RANGE);
        refusesKeys(TwinHashTables::linearProbes);
    }

    // ---- Promises 34 and 35: load and splits

    private void loads() {
        sentence("Returns the load of the linear table: 100 times the keys, divided by the buckets times the capacity, rounded"
            + " down.");
        TwinHashTables x = new TwinHashTables();
        due("empty", x.load(), 0);
        put(x, 0);
        due("33.3", x.load(), 33);
        put(x, 1);
        due("66.7", x.load(), 66);
        put(x, 2);
        due("3 of 6", x.load(), 50);
        put(x, 3, 4, 5, 6);
        due("7 of 9, 77.8", x.load(), 77);
        x.rebuild(5);
        due("7 of 10", x.load(), 70);
        x.setLoads(0, 200);
        x.rebuild(1);
        due("7 of 4", x.load(), 175);
        put(x, 7);
        due("8 of 4", x.load(), 200);
        x.clear();
        due("cleared", x.load(), 0);
        TwinHashTables most = new TwinHashTables();
        most.rebuild(1);
        most.setLoads(0, 200);
        put(most, upTo(120));
        due("120 of 60", most.load(), 200);
        remove(most, hashes(119, i -> i));
        due("1 of 60, 1.7", most.load(), 1);
        remove(most, 119);
        due("0 of 60", most.load(), 0);
    }

    private void splits() {
        sentence("Returns how often buckets of the linear table were split, less how often a split was taken back; clearing takes"
            + " back none of these.");
        TwinHashTables x = new TwinHashTables();
        due("none", x.linearSplits(), 0);
        put(x, upTo(3));
        due("one", x.linearSplits(), 1);
        put(x, 3, 4, 5, 6, 7);
        due("three", x.linearSplits(), 3);
        remove(x, 0, 1, 2, 3, 4);
        due("one less", List.of(x.linearBuckets(), x.linearSplits()), List.of(3, 2));
        remove(x, 5, 6, 7);
        due("all taken back", List.of(x.linearBuckets(), x.linearSplits()), List.of(1, 0));
        put(x, upTo(8));
        x.clear();
        due("clearing takes back none", List.of(x.linearBuckets(), x.linearSplits()), List.of(1, 3));
        put(x, upTo(8));
        due("three more", x.linearSplits(), 6);
        remove(x, upTo(8));
        due("three less", x.linearSplits(), 3);
        put(x, upTo(4));
        x.setLoads(0, 50);
        put(x, 4);
        due("twice by one call", List.of(x.linearBuckets(), x.linearSplits()), List.of(4, 6));
        x.rebuild(3);
        due("three more by rebuilding", List.of(x.linearBuckets(), x.linearSplits()), List.of(4, 9));
    }
}
