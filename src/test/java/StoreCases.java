import java.util.List;
import java.util.function.Supplier;

/** The sentences of the promises 1 to 10. */
final class StoreCases extends Cases {
    private static final String KEYS = "- `key`: 0 to 65535";
    private static final String KEY_OUT_OF_RANGE = "Throws `IllegalArgumentException` if key is out of range";

    StoreCases(Ledger ledger) {
        super(ledger);
    }

    @Override
    void check() {
        section("Promise 1");
        test(this::begins);
        section("Promise 2");
        test(this::putsAValue);
        test(this::putReplaces);
        test(this::putTakesKeys);
        test(this::putTakesValues);
        test(this::putReturns);
        test(this::putRefusesRanges);
        test(this::putRefusesTheFullStore);
        section("Promise 3");
        test(this::removesFromBoth);
        test(this::removeTakesKeys);
        test(this::removeReturns);
        test(this::removeRefusesKeys);
        section("Promise 4");
        test(this::gets);
        test(this::getTakesKeys);
        test(this::getReturns);
        test(this::getRefusesKeys);
        section("Promise 5");
        test(this::getsByLinear);
        test(this::getByLinearTakesKeys);
        test(this::getByLinearReturns);
        test(this::getByLinearRefusesKeys);
        section("Promise 6");
        test(this::sizes);
        section("Promise 7");
        test(this::clears);
        test(this::clearKeeps);
        test(this::clearReturns);
        section("Promise 8");
        test(this::rebuilds);
        test(this::rebuildTakesCapacities);
        test(this::rebuildReturns);
        test(this::rebuildRefuses);
        section("Promise 9");
        test(this::setsLoads);
        test(this::lowLoads);
        test(this::highLoads);
        test(this::setLoadsReturns);
        test(this::setLoadsRefuses);
        section("Promise 10");
        test(this::hashes);
        test(this::hashOfTakesKeys);
        test(this::hashOfRefusesKeys);
    }

    // ---- Promise 1: A new object

    private void begins() {
        sentence("Begins with an empty store.");
        full();
        TwinHashTables x = new TwinHashTables();
        due("no key", List.of(x.size(), x.get(0), x.getByLinear(0), x.get(65535), x.remove(0), x.load()),
            List.of(0, -1, -1, -1, -1, 0));
        due("empty buckets", List.of(x.bucketSize(0), x.linearSize(0), x.overflowPages(), x.linearOverflowPages()),
            List.of(0, 0, 0, 0));
        due("nothing counted", counts(x), List.of(0, 0, 0, 0, 0));
        due("nothing to clear", x.clear(), 0);
    }

    // ---- Promise 2: put

    private void putsAValue() {
        sentence("Puts a value under a key.");
        TwinHashTables x = new TwinHashTables();
        x.put(7, 100);
        due("one key", List.of(x.get(7), x.getByLinear(7), x.size()), List.of(100, 100, 1));
        due("the keys beside it", List.of(x.get(6), x.get(8)), List.of(-1, -1));
        TwinHashTables full = with(upTo(120));
        due("120 keys", answers(120, hash -> full.get(key(hash))), answers(120, hash -> hash));
        due("120 keys, linear", answers(120, hash -> full.getByLinear(key(hash))), answers(120, hash -> hash));
    }

    private void putReplaces() {
        sentence("If the store has the key, its value is replaced, and nothing else happens.");
        TwinHashTables x = with(4, 0, 2);
        x.put(key(0), 999999);
        due("replaced", List.of(x.get(key(0)), x.getByLinear(key(0)), x.size()), List.of(999999, 999999, 3));
        due("a full bucket is not split", List.of(counts(x), bucket(x, 0)), List.of(List.of(0, 0, 0, 0, 1), List.of(4, 0, 2)));
        due("no other value", List.of(x.get(key(4)), x.get(key(2))), List.of(4, 2));
        for (Supplier<TwinHashTables> state : states()) {
            TwinHashTables has = state.get();
            unchanged("the same value again", state, y -> has.size() == 0 ? 0 : y.put(key(2), 2));
        }
        TwinHashTables loaded = with(upTo(8));
        loaded.setLoads(0, 50);
        loaded.put(key(3), 33);
        due("no linear bucket is split: 800 are more than 50 * 4 * 3", linearShape(loaded), List.of(4, 2, 0));
        TwinHashTables few = few();
        few.put(key(3), 34);
        due("nor taken back: 700 are fewer than 50 * 5 * 3", List.of(linearShape(few), few.get(key(3))),
            List.of(List.of(5, 2, 1), 34));
        TwinHashTables full = full();
        due("in a full store", List.of(full.put(key(119), 5), full.put(key(0), 6), full.get(key(119)), full.size()),
            List.of(119, 0, 5, 120));
    }

    private void putTakesKeys() {
        sentence(KEYS);
        TwinHashTables x = new TwinHashTables();
        due("the least", List.of(x.put(0, 5), x.get(0), x.get(65535)), List.of(-1, 5, -1));
        due("the greatest", List.of(x.put(65535, 6), x.get(65535), x.get(0)), List.of(-1, 6, 5));
        due("beside them", List.of(x.put(1, 7), x.put(65534, 8), x.size()), List.of(-1, -1, 4));
    }

    private void putTakesValues() {
        sentence("- `value`: 0 to 999999");
        TwinHashTables x = new TwinHashTables();
        due("the least", List.of(x.put(9, 0), x.get(9), x.getByLinear(9)), List.of(-1, 0, 0));
        due("the greatest", List.of(x.put(9, 999999), x.get(9), x.getByLinear(9)), List.of(0, 999999, 999999));
        due("of a new key", List.of(x.put(8, 999999), x.get(8)), List.of(-1, 999999));
    }

    private void putReturns() {
        sentence("Returns the value before; -1 if the key is new.");
        TwinHashTables x = new TwinHashTables();
        due("new", x.put(5, 0), -1);
        due("0 before", x.put(5, 999999), 0);
        due("the greatest value before", x.put(5, 3), 999999);
        due("another key", x.put(6, 3), -1);
        x.remove(5);
        due("removed, so new again", x.put(5, 4), -1);
        x.rebuild(1);
        due("not new after rebuilding", List.of(x.put(5, 6), x.put(6, 7)), List.of(4, 3));
        x.clear();
        due("new after clearing", List.of(x.put(5, 8), x.put(6, 9)), List.of(-1, -1));
        due("new, as the bucket is split", List.of(x.put(7, 8), x.put(8, 9), x.put(7, 0)), List.of(-1, -1, 8));
    }

    private void putRefusesRanges() {
        sentence("Throws `IllegalArgumentException` if key or value is out of range");
        refusesKeys((x, key) -> x.put(key, 0));
        for (Supplier<TwinHashTables> state : states()) {
            refused(ARGUMENT, state, x -> x.put(key(2), -1), x -> x.put(key(2), 1000000), x -> x.put(key(500), -1),
                x -> x.put(key(500), 1000000), x -> x.put(key(500), MIN), x -> x.put(key(500), MAX), x -> x.put(0, -1),
                x -> x.put(65535, 1000000), x -> x.put(-1, -1), x -> x.put(65536, 1000000));
        }
    }

    private void putRefusesTheFullStore() {
        sentence("Throws `IllegalStateException` if the key is new, and the store has 120 keys");
        refused(STATE, Cases::full, x -> x.put(key(120), 0), x -> x.put(key(120), 999999), x -> x.put(65535, 1),
            x -> x.put(key(32768), 1));
        TwinHashTables x = with(upTo(119));
        due("119 keys", x.put(key(119), 1), -1);
        thrown("120 keys", STATE, x, y -> y.put(key(120), 1));
        due("not new", x.put(key(119), 2), 1);
        x.remove(key(500));
        thrown("120 keys still", STATE, x, y -> y.put(key(120), 1));
        x.remove(key(0));
        due("room for one", x.put(key(120), 1), -1);
        thrown("and not for two", STATE, x, y -> y.put(key(0), 1));
        x.rebuild(5);
        thrown("full after rebuilding", STATE, x, y -> y.put(key(0), 1));
        x.clear();
        put(x, upTo(120));
        thrown("full again after clearing", STATE, x, y -> y.put(key(120), 1));
    }

    // ---- Promise 3: remove

    private void removesFromBoth() {
        sentence("Removes a key from both tables.");
        TwinHashTables x = with(alike(5));
        x.remove(key(512));
        due("not found", List.of(x.get(key(512)), x.getByLinear(key(512)), x.size()), List.of(-1, -1, 4));
        due("not in the buckets", List.of(bucket(x, 0), linear(x, 0)),
            List.of(List.of(0, 256, 768, 1024), List.of(0, 256, 768, 1024)));
        TwinHashTables y = with(7);
        y.remove(key(7));
        due("the only key", List.of(y.size(), y.bucketSize(0), y.linearSize(0)), List.of(0, 0, 0));
        TwinHashTables full = with(upTo(120));
        for (int hash = 0; hash < 120; hash += 2) {
            full.remove(key(hash));
        }
        due("every other one of 120", answers(120, hash -> full.get(key(hash))),
            answers(120, hash -> hash % 2 == 0 ? -1 : hash));
        due("every other one of 120, linear", answers(120, hash -> full.getByLinear(key(hash))),
            answers(120, hash -> hash % 2 == 0 ? -1 : hash));
    }

    private void removeTakesKeys() {
        sentence(KEYS);
        TwinHashTables x = new TwinHashTables();
        x.put(0, 5);
        x.put(65535, 6);
        due("the greatest", List.of(x.remove(65535), x.size(), x.get(0)), List.of(6, 1, 5));
        due("the least", List.of(x.remove(0), x.size()), List.of(5, 0));
        due("absent", List.of(x.remove(0), x.remove(65535)), List.of(-1, -1));
    }

    private void removeReturns() {
        sentence("Returns its value; -1 if the store does not have it, and then nothing happens.");
        TwinHashTables x = new TwinHashTables();
        x.put(1, 0);
        x.put(2, 999999);
        x.put(2, 7);
        due("an empty store", new TwinHashTables().remove(0), -1);
        due("0", x.remove(1), 0);
        due("the last value", x.remove(2), 7);
        due("twice", List.of(x.remove(1), x.remove(2)), List.of(-1, -1));
        for (Supplier<TwinHashTables> state : states()) {
            unchanged("absent keys", state, y -> y.remove(key(500)), y -> y.remove(key(501)), y -> y.remove(key(502)),
                y -> y.remove(key(503)), y -> y.remove(key(768 * 2)), y -> y.remove(65535));
        }
        TwinHashTables few = few();
        few.remove(key(9));
        due("a split that is due is not taken back", few.linearBuckets(), 5);
        few.remove(key(8));
        due("but by a removal", few.linearBuckets(), 4);
    }

    private void removeRefusesKeys() {
        sentence(KEY_OUT_OF_RANGE);
        refusesKeys(TwinHashTables::remove);
    }

    // ---- Promise 4: get

    private void gets() {
        sentence("Returns the value of a key, looked up in the extendible table.");
        TwinHashTables x = with(alike(7));
        due("in the bucket and its overflow pages", answers(7, number -> x.get(key(256 * number))),
            List.of(0, 256, 512, 768, 1024, 1280, 1536));
        TwinHashTables y = with(0, 2, 4, 6, 1, 7);
        due("by a shared slot", List.of(y.get(key(1)), y.get(key(7))), List.of(1, 7));
        y.put(key(7), 70);
        due("the new value", y.get(key(7)), 70);
        unchanged("nothing else happens", Cases::few, z -> z.get(key(2)), z -> z.get(key(500)));
    }

    private void getTakesKeys() {
        sentence(KEYS);
        TwinHashTables x = new TwinHashTables();
        due("absent", List.of(x.get(0), x.get(65535)), List.of(-1, -1));
        x.put(0, 3);
        x.put(65535, 4);
        due("the least and the greatest", List.of(x.get(0), x.get(65535), x.get(1), x.get(65534)), List.of(3, 4, -1, -1));
    }

    private void getReturns() {
        sentence("Returns the value; -1 if the store does not have the key.");
        TwinHashTables x = new TwinHashTables();
        due("an empty store", x.get(5), -1);
        x.put(5, 0);
        due("0", x.get(5), 0);
        x.put(5, 999999);
        due("the greatest value", x.get(5), 999999);
        due("another key", x.get(6), -1);
        x.remove(5);
        due("removed", x.get(5), -1);
        TwinHashTables y = with(alike(7));
        due("a key of a full bucket's slot", y.get(key(1792)), -1);
        y.clear();
        due("cleared", answers(7, number -> y.get(key(256 * number))), List.of(-1, -1, -1, -1, -1, -1, -1));
    }

    private void getRefusesKeys() {
        sentence(KEY_OUT_OF_RANGE);
        refusesKeys(TwinHashTables::get);
    }

    // ---- Promise 5: getByLinear

    private void getsByLinear() {
        sentence("Returns the same, looked up in the linear table.");
        TwinHashTables x = with(alike(7));
        due("in the bucket and its overflow pages", answers(7, number -> x.getByLinear(key(256 * number))),
            List.of(0, 256, 512, 768, 1024, 1280, 1536));
        TwinHashTables y = with(upTo(10));
        due("on both sides of the pointer", answers(10, hash -> y.getByLinear(key(hash))), answers(10, hash -> hash));
        y.put(key(7), 70);
        due("the new value", y.getByLinear(key(7)), 70);
        unchanged("nothing else happens", Cases::few, z -> z.getByLinear(key(2)), z -> z.getByLinear(key(500)));
    }

    private void getByLinearTakesKeys() {
        sentence(KEYS);
        TwinHashTables x = new TwinHashTables();
        due("absent", List.of(x.getByLinear(0), x.getByLinear(65535)), List.of(-1, -1));
        x.put(0, 3);
        x.put(65535, 4);
        due("the least and the greatest", List.of(x.getByLinear(0), x.getByLinear(65535), x.getByLinear(1),
            x.getByLinear(65534)), List.of(3, 4, -1, -1));
    }

    private void getByLinearReturns() {
        sentence("Returns the value; -1 if the store does not have the key.");
        TwinHashTables x = new TwinHashTables();
        due("an empty store", x.getByLinear(5), -1);
        x.put(5, 0);
        due("0", x.getByLinear(5), 0);
        x.put(5, 999999);
        due("the greatest value", x.getByLinear(5), 999999);
        due("another key", x.getByLinear(6), -1);
        x.remove(5);
        due("removed", x.getByLinear(5), -1);
        TwinHashTables y = with(alike(7));
        due("a key of a full bucket", y.getByLinear(key(1792)), -1);
        y.clear();
        due("cleared", answers(7, number -> y.getByLinear(key(256 * number))), List.of(-1, -1, -1, -1, -1, -1, -1));
    }

    private void getByLinearRefusesKeys() {
        sentence(KEY_OUT_OF_RANGE);
        refusesKeys(TwinHashTables::getByLinear);
    }

    // ---- Promise 6: size

    private void sizes() {
        sentence("Returns how many keys the store has.");
        TwinHashTables x = new TwinHashTables();
        due("empty", x.size(), 0);
        put(x, 5);
        due("one", x.size(), 1);
        put(x, 5);
        due("replaced", x.size(), 1);
        remove(x, 6);
        due("absent", x.size(), 1);
        remove(x, 5);
        due("none", x.size(), 0);
        TwinHashTables y = full();
        due("full", y.size(), 120);
        thrown("one too many", STATE, y, z -> z.put(key(120), 1));
        due("full still", y.size(), 120);
        y.rebuild(5);
        due("rebuilt", y.size(), 120);
        y.remove(key(0));
        due("119", y.size(), 119);
        y.clear();
        due("cleared", y.size(), 0);
    }

    // ---- Promise 7: clear

    private void clears() {
        sentence("Removes all keys; both tables are as at first.");
        for (Supplier<TwinHashTables> state : states()) {
            TwinHashTables x = state.get();
            x.clear();
            due("no key", List.of(x.size(), x.get(key(2)), x.getByLinear(key(2)), x.remove(key(2))), List.of(0, -1, -1, -1));
            due("the extendible table", List.of(x.globalDepth(), x.buckets(), x.localDepth(0), x.bucketSize(0), x.buddyOf(0)),
                List.of(0, 1, 0, 0, -1));
            due("the linear table", List.of(linearShape(x), x.linearSize(0), x.load()), List.of(List.of(1, 0, 0), 0, 0));
            thrown("slot 1", INDEX, x, y -> y.localDepth(1));
            thrown("linear bucket 1", INDEX, x, y -> y.linearSize(1));
            put(x, 3);
            due("a key put anew", List.of(bucket(x, 0), linear(x, 0)), List.of(List.of(3), List.of(3)));
        }
        TwinHashTables full = with(upTo(120));
        full.clear();
        put(full, hashes(120, i -> 200 + i));
        due("filled anew", List.of(full.size(), full.get(key(319)), full.get(key(119))), List.of(120, 319, -1));
    }

    private void clearKeeps() {
        sentence("Capacity, loads and counts stay.");
        TwinHashTables x = with(alike(5));
        put(x, 1, 3, 5, 7);
        remove(x, 1024, 512, 7);
        x.setLoads(0, 50);
        List<Integer> before = counts(x);
        due("counts to keep", before, List.of(8, 7, 9, 8, 3));
        x.clear();
        due("counts", counts(x), before);
        put(x, 0, 1);
        due("the high load: 200 is more than 50 * 1 * 3", x.linearBuckets(), 2);
        remove(x, 0, 1);
        due("the low load, 0", x.linearBuckets(), 2);
        for (int capacity = 1; capacity <= 5; capacity++) {
            TwinHashTables y = with(1, 2);
            y.rebuild(capacity);
            y.clear();
            due("the capacity " + capacity, y.rebuild(3), capacity);
        }
        x.clear();
        due("the high load", x.setLoads(30, 80), 50);
        TwinHashTables low = with(upTo(4));
        low.setLoads(50, 100);
        low.clear();
        put(low, upTo(7));
        remove(low, 0, 1, 2);
        due("the low load: 400 is fewer than 50 * 3 * 3", low.linearBuckets(), 2);
    }

    private void clearReturns() {
        sentence("Returns how many keys there were.");
        due("none", new TwinHashTables().clear(), 0);
        due("one", with(5).clear(), 1);
        TwinHashTables x = full();
        due("120", x.clear(), 120);
        due("twice", x.clear(), 0);
        put(x, 1, 2, 1);
        remove(x, 2);
        due("put and removed", x.clear(), 1);
    }

    // ---- Promise 8: rebuild

    private void rebuilds() {
        sentence("Changes the capacity of all buckets: the store is cleared, and then all its keys are put anew, by rising keys,"
            + " with the new capacity; splits and doublings by that are counted.");
        TwinHashTables order = new TwinHashTables();
        order.rebuild(5);
        int[] falling = {65535, 40000, 9, 2, 0};
        for (int key : falling) {
            order.put(key, key);
        }
        order.rebuild(5);
        due("by rising keys, not hashes, and the same capacity too", answers(5, place -> order.keyAt(0, place)),
            List.of(0, 2, 9, 40000, 65535));
        due("values stay", List.of(order.get(0), order.get(9), order.getByLinear(65535), order.size()), List.of(0, 9, 65535, 5));

        TwinHashTables x = with(0, 2, 4);
        x.rebuild(1);
        due("to 1: 0 and 4 are parted by bit 2, 2 by bit 1", List.of(x.splits(), x.doublings(), depths(x)),
            List.of(3, 3, List.of(3, 1, 2, 1, 3, 1, 2, 1)));
        due("linear splits on top: 300 is more than 80 * 3", List.of(linearShape(x), x.linearSplits()),
            List.of(List.of(4, 2, 0), 4));
        x.rebuild(5);
        due("to 5: nothing is split, merged or halved", List.of(counts(x), depths(x), linearShape(x)),
            List.of(List.of(3, 0, 3, 0, 4), List.of(0), List.of(1, 0, 0)));
        due("both tables' capacity", List.of(x.overflowPages(), x.load()), List.of(0, 60));
        x.rebuild(1);
        due("to 1 again", List.of(counts(x), x.buckets()), List.of(List.of(6, 0, 6, 0, 7), 4));
        TwinHashTables empty = new TwinHashTables();
        empty.rebuild(1);
        due("an empty store", List.of(counts(empty), empty.size()), List.of(List.of(0, 0, 0, 0, 0), 0));
        put(empty, 0, 1);
        due("the new capacity", empty.buckets(), 2);
        TwinHashTables full = with(upTo(120));
        full.setLoads(0, 50);
        full.rebuild(1);
        due("a full store", List.of(full.size(), linearShape(full)), List.of(120, List.of(240, 7, 112)));
        due("all keys", answers(120, hash -> full.get(key(hash))), answers(120, hash -> hash));
        due("all keys, linear", answers(120, hash -> full.getByLinear(key(hash))), answers(120, hash -> hash));
        due("the loads stay", full.setLoads(0, 80), 50);
    }

    private void rebuildTakesCapacities() {
        sentence("- `capacity`: 1 to 5");
        for (int capacity = 1; capacity <= 5; capacity++) {
            TwinHashTables x = new TwinHashTables();
            x.rebuild(capacity);
            put(x, upTo(capacity));
            due("just " + capacity, x.buckets(), 1);
            put(x, capacity);
            due("one more than " + capacity, x.buckets() > 1, true);
            TwinHashTables y = with(alike(6));
            y.rebuild(capacity);
            due("pages of " + capacity, List.of(y.overflowPages(), y.linearOverflowPages()),
                List.of(6 / capacity - (6 % capacity == 0 ? 1 : 0), 6 / capacity - (6 % capacity == 0 ? 1 : 0)));
        }
    }

    private void rebuildReturns() {
        sentence("Returns the capacity before.");
        TwinHashTables x = new TwinHashTables();
        due("3 at first, to the least", x.rebuild(1), 3);
        due("1, to the greatest", x.rebuild(5), 1);
        due("5, to the same", x.rebuild(5), 5);
        thrown("refused", ARGUMENT, x, y -> y.rebuild(6));
        due("5 still", x.rebuild(2), 5);
        x.clear();
        due("2 after clearing", x.rebuild(3), 2);
    }

    private void rebuildRefuses() {
        sentence("Throws `IllegalArgumentException` if capacity is out of range");
        for (Supplier<TwinHashTables> state : states()) {
            refused(ARGUMENT, state, x -> x.rebuild(0), x -> x.rebuild(6), x -> x.rebuild(-1), x -> x.rebuild(-3),
                x -> x.rebuild(MIN), x -> x.rebuild(MAX));
        }
    }

    // ---- Promise 9: setLoads

    private void setsLoads() {
        sentence("Changes the loads of the linear table, for splits, and for taking them back, from now on; no bucket is split by"
            + " this call.");
        TwinHashTables x = with(upTo(4));
        x.setLoads(0, 50);
        due("a lower high load splits nothing", List.of(linearShape(x), x.linearSplits()), List.of(List.of(2, 1, 0), 1));
        put(x, 4);
        due("from now on: 500 is more than 50 * 3 * 3", linearShape(x), List.of(4, 2, 0));
        x.setLoads(50, 100);
        due("a higher low load takes nothing back", List.of(linearShape(x), x.linearSplits()), List.of(List.of(4, 2, 0), 3));
        put(x, 5);
        due("nor does a put", linearShape(x), List.of(4, 2, 0));
        remove(x, 5);
        due("from now on: 500 is fewer than 50 * 4 * 3", linearShape(x), List.of(3, 1, 1));
        x.setLoads(0, 200);
        remove(x, 0, 1, 2, 3, 4);
        due("the low load 0: none is taken back", linearShape(x), List.of(3, 1, 1));
        put(x, upTo(18));
        due("the high load 200: 1800 is not more than 200 * 3 * 3", linearShape(x), List.of(3, 1, 1));
        put(x, 18);
        due("1900 is more", linearShape(x), List.of(4, 2, 0));
    }

    private void lowLoads() {
        sentence("- `low`: 0 to 50, and not above half of high");
        TwinHashTables x = new TwinHashTables();
        due("0 and 50", List.of(x.setLoads(0, 200), x.setLoads(50, 200)), List.of(80, 200));
        due("just half of high", List.of(x.setLoads(25, 50), x.setLoads(40, 80), x.setLoads(50, 100)), List.of(200, 50, 80));
        due("just below half of high", List.of(x.setLoads(25, 51), x.setLoads(49, 99)), List.of(100, 51));
        due("half of 99 is above 49", x.setLoads(0, 80), 99);
        refused(ARGUMENT, Cases::few, y -> y.setLoads(-1, 200), y -> y.setLoads(51, 200), y -> y.setLoads(26, 50),
            y -> y.setLoads(26, 51), y -> y.setLoads(41, 80), y -> y.setLoads(50, 99), y -> y.setLoads(51, 102));
        TwinHashTables none = with(upTo(8));
        none.setLoads(0, 80);
        remove(none, upTo(8));
        due("0 takes nothing back", none.linearBuckets(), 4);
        TwinHashTables most = with(upTo(8));
        most.setLoads(50, 200);
        remove(most, 0, 1);
        due("50 of 4 * 3", List.of(most.load(), most.linearBuckets()), List.of(50, 4));
        remove(most, 2);
        due("below 50", most.linearBuckets(), 3);
    }

    private void highLoads() {
        sentence("- `high`: 50 to 200");
        TwinHashTables x = new TwinHashTables();
        due("50 and 200", List.of(x.setLoads(0, 50), x.setLoads(0, 200), x.setLoads(0, 199), x.setLoads(0, 51)),
            List.of(80, 50, 200, 199));
        refused(ARGUMENT, Cases::few, y -> y.setLoads(0, 49), y -> y.setLoads(0, 201), y -> y.setLoads(0, -1),
            y -> y.setLoads(0, 0), y -> y.setLoads(0, MIN), y -> y.setLoads(0, MAX));
        TwinHashTables least = new TwinHashTables();
        least.setLoads(0, 50);
        put(least, 0);
        due("100 is not more than 50 * 3", least.linearBuckets(), 1);
        put(least, 1, 2);
        due("300 is not more than 50 * 2 * 3", List.of(least.load(), least.linearBuckets()), List.of(50, 2));
        put(least, 3);
        due("400 is", least.linearBuckets(), 3);
        TwinHashTables most = new TwinHashTables();
        most.setLoads(0, 200);
        put(most, upTo(6));
        due("600 is not more than 200 * 3", List.of(most.load(), most.linearBuckets()), List.of(200, 1));
        put(most, 6);
        due("700 is", most.linearBuckets(), 2);
    }

    private void setLoadsReturns() {
        sentence("Returns the high load before.");
        TwinHashTables x = new TwinHashTables();
        due("80 at first", x.setLoads(25, 50), 80);
        due("the least", x.setLoads(50, 200), 50);
        due("the greatest", x.setLoads(10, 60), 200);
        thrown("refused", ARGUMENT, x, y -> y.setLoads(31, 61));
        due("60 still", x.setLoads(0, 60), 60);
        x.clear();
        x.rebuild(1);
        due("60 after clearing and rebuilding", x.setLoads(30, 80), 60);
    }

    private void setLoadsRefuses() {
        sentence("Throws `IllegalArgumentException` if low or high is out of range");
        for (Supplier<TwinHashTables> state : states()) {
            refused(ARGUMENT, state, x -> x.setLoads(-1, 80), x -> x.setLoads(51, 200), x -> x.setLoads(41, 80),
                x -> x.setLoads(0, 49), x -> x.setLoads(0, 201), x -> x.setLoads(-1, 49), x -> x.setLoads(51, 201),
                x -> x.setLoads(24, 48), x -> x.setLoads(MIN, 80), x -> x.setLoads(MAX, 80), x -> x.setLoads(0, MIN),
                x -> x.setLoads(0, MAX), x -> x.setLoads(MIN, MIN), x -> x.setLoads(MAX, MAX));
        }
    }

    // ---- Promise 10: hashOf

    private void hashes() {
        sentence("Returns the hash of a key.");
        TwinHashTables x = with(5);
        due("0 and 1", List.of(x.hashOf(0), x.hashOf(1)), List.of(0, 40503));
        due("that of a key of the store", x.hashOf(key(5)), 5);
        due("beyond 65536", List.of(x.hashOf(2), x.hashOf(32768), x.hashOf(32769)), List.of(15470, 32768, 7735));
        due("beyond 2 to the power of 31", List.of(x.hashOf(53021), x.hashOf(60000), x.hashOf(65535)),
            List.of(25915, 39584, 25033));
        due("all bits", List.of(x.hashOf(key(65535)), x.hashOf(key(32768))), List.of(65535, 32768));
        unchanged("nothing else happens", Cases::few, y -> y.hashOf(7));
    }

    private void hashOfTakesKeys() {
        sentence(KEYS);
        due("the least and the greatest", List.of(full().hashOf(0), full().hashOf(65535)), List.of(0, 25033));
        due("in an empty store", List.of(with().hashOf(0), with().hashOf(65535)), List.of(0, 25033));
    }

    private void hashOfRefusesKeys() {
        sentence(KEY_OUT_OF_RANGE);
        refusesKeys(TwinHashTables::hashOf);
    }
}
