import java.util.ArrayList;
import java.util.List;
import java.util.TreeSet;
import java.util.function.IntSupplier;
import java.util.function.IntUnaryOperator;

/**
 * Each promise of the document by itself, with answers worked out by hand.
 *
 * The lowest bits of a hash: 40503 ends with the bits 110111, so a hash ends with the same bit as its
 * key, and a key k below 8 has the lowest 2 bits of -k and the lowest 3 bits of -k. Keys that are
 * multiples of 256 have hashes that end with eight bits 0.
 */
public final class PromisesTest {
    private static final int MIN = Integer.MIN_VALUE;
    private static final int MAX = Integer.MAX_VALUE;
    private static final Class<IllegalArgumentException> ARGUMENT = IllegalArgumentException.class;
    private static final Class<IllegalStateException> STATE = IllegalStateException.class;
    private static final Class<IndexOutOfBoundsException> INDEX = IndexOutOfBoundsException.class;

    private static final Checks CHECKS = new Checks();

    public static void main(String[] args) {
        promise1();
        promise2();
        promise2Order();
        promise3();
        promise3Tables();
        promises4And5();
        promise6();
        promise7();
        promise8();
        promise9();
        promise10();
        promises11To14();
        promise15();
        promise16();
        promise17();
        promise18();
        promise19();
        promises20To23();
        promise23Order();
        promise24();
        promise25();
        promise25Scan();
        promises26To28();
        promise29();
        promise30();
        promise31();
        promise32();
        promise33();
        promise34();
        promise35();
        CHECKS.end("PromisesTest");
    }

    // ---- helpers

    private static void due(String what, Object got, Object want) {
        CHECKS.due(what, got, want);
    }

    private static void thrown(String what, Class<? extends RuntimeException> want, IntSupplier... calls) {
        CHECKS.thrown(what, want, calls);
    }

    private static void wrongKeys(String what, IntUnaryOperator call) {
        thrown(what, ARGUMENT, () -> call.applyAsInt(-1), () -> call.applyAsInt(65536),
            () -> call.applyAsInt(MIN), () -> call.applyAsInt(MAX));
    }

    private static void wrongCursors(String what, IntUnaryOperator call) {
        thrown(what, ARGUMENT, () -> call.applyAsInt(-1), () -> call.applyAsInt(256),
            () -> call.applyAsInt(MIN), () -> call.applyAsInt(MAX));
    }

    private static void wrongIndexes(String what, int count, IntUnaryOperator call) {
        thrown(what, INDEX, () -> call.applyAsInt(-1), () -> call.applyAsInt(count),
            () -> call.applyAsInt(MIN), () -> call.applyAsInt(MAX));
    }

    /** An object with these keys, each with the value key + 1. */
    private static TwinHashTables with(int... keys) {
        TwinHashTables x = new TwinHashTables();
        putAll(x, keys);
        return x;
    }

    private static void putAll(TwinHashTables x, int... keys) {
        for (int key : keys) {
            x.put(key, key + 1);
        }
    }

    private static int[] range(int count, int step) {
        int[] keys = new int[count];
        for (int i = 0; i < count; i++) {
            keys[i] = i * step;
        }
        return keys;
    }

    private static List<Integer> row(TwinHashTables x, int slot) {
        List<Integer> keys = new ArrayList<>();
        for (int place = 0; place < x.bucketSize(slot); place++) {
            keys.add(x.keyAt(slot, place));
        }
        return keys;
    }

    private static List<Integer> linearRow(TwinHashTables x, int bucket) {
        List<Integer> keys = new ArrayList<>();
        for (int place = 0; place < x.linearSize(bucket); place++) {
            keys.add(x.linearKeyAt(bucket, place));
        }
        return keys;
    }

    private static List<Integer> shape(TwinHashTables x) {
        return List.of(x.size(), x.globalDepth(), x.buckets(), x.overflowPages(),
            x.linearBuckets(), x.level(), x.pointer(), x.linearOverflowPages(), x.load());
    }

    private static List<Integer> counts(TwinHashTables x) {
        return List.of(x.doublings(), x.halvings(), x.splits(), x.merges(), x.linearSplits());
    }

    // ---- the store

    private static void promise1() {
        TwinHashTables x = new TwinHashTables();
        due("1: empty", shape(x), List.of(0, 0, 1, 0, 1, 0, 0, 0, 0));
        due("1: nothing counted", counts(x), List.of(0, 0, 0, 0, 0));
        due("1: one bucket of depth 0", x.localDepth(0), 0);
        due("1: high load 80", x.setLoads(30, 80), 80);
        due("1: capacity 3", x.rebuild(3), 3);
        with(1, 2, 3, 4);
        due("1: objects are apart", new TwinHashTables().size(), 0);
    }

    private static void promise2() {
        TwinHashTables x = new TwinHashTables();
        due("2: new key", x.put(0, 0), -1);
        due("2: highest key and value", x.put(65535, 999999), -1);
        due("2: value before", x.put(65535, 5), 999999);
        due("2: value before, 0", x.put(0, 7), 0);
        due("2: replaced", x.get(0) + x.getByLinear(65535), 12);
        due("2: no key more", x.size(), 2);
        wrongKeys("2: key", key -> x.put(key, 0));
        thrown("2: value", ARGUMENT, () -> x.put(1, -1), () -> x.put(1, 1000000), () -> x.put(1, MIN),
            () -> x.put(1, MAX), () -> x.put(0, -1), () -> x.put(0, 1000000));
        due("2: nothing changed", List.of(x.size(), x.get(0), x.get(1), x.get(65535)), List.of(2, 7, -1, 5));

        TwinHashTables full = with(range(119, 1));
        due("2: the 120th key", full.put(60000, 1), -1);
        List<Integer> before = shape(full);
        thrown("2: full", STATE, () -> full.put(119, 1), () -> full.put(65535, 999999));
        thrown("2: full and out of range", ARGUMENT, () -> full.put(-1, 1), () -> full.put(119, -1),
            () -> full.put(119, 1000000));
        due("2: nothing changed by a full store", shape(full), before);
        due("2: absent", full.get(119), -1);
        due("2: full, replaced", full.put(60000, 2), 1);
        due("2: full, last value", full.get(60000), 2);
        full.remove(3);
        due("2: room again", full.put(119, 1), -1);
        thrown("2: full again", STATE, () -> full.put(3, 1));
    }

    private static void promise2Order() {
        TwinHashTables x = with(5, 3, 4);
        due("2: added as the last one", row(x, 0), List.of(5, 3, 4));
        x.put(5, 0);
        due("2: replacing moves nothing", row(x, 0), List.of(5, 3, 4));
        TwinHashTables y = with(3, 2, 1, 0, 4, 6);
        due("2: slot 0 after splits", row(y, 0), List.of(0, 4));
        due("2: slot 2 after splits", row(y, 2), List.of(2, 6));
        due("2: shared slots 1 and 3", row(y, 1).equals(row(y, 3)) ? row(y, 3) : null, List.of(3, 1));
        y.setLoads(0, 50);
        y.put(0, 9);
        due("2: replacing splits nothing", y.linearBuckets(), 3);
        due("2: overfull at depth 8", row(with(768, 0, 512, 256), 0), List.of(768, 0, 512, 256));
    }

    private static void promise3() {
        TwinHashTables x = with(0, 65535, 7);
        due("3: value", x.remove(65535), 65536);
        due("3: gone from both", List.of(x.get(65535), x.getByLinear(65535), x.size()), List.of(-1, -1, 2));
        due("3: absent", x.remove(65535), -1);
        due("3: absent leaves all", x.size(), 2);
        due("3: lowest", x.remove(0), 1);
        due("3: last", x.remove(7), 8);
        due("3: empty", x.remove(7), -1);
        due("3: at first again", shape(x), List.of(0, 0, 1, 0, 1, 0, 0, 0, 0));
        wrongKeys("3: key", x::remove);
        TwinHashTables y = with(1, 2, 3, 4, 5);
        y.setLoads(50, 100);
        y.rebuild(5);
        due("3: put back", y.put(2, 50), 3);
        due("3: new value", y.remove(2), 50);
    }

    private static void promise3Tables() {
        TwinHashTables x = with(0, 256, 512, 768, 1024);
        x.remove(256);
        due("3: keys behind move up", row(x, 0), List.of(0, 512, 768, 1024));
        x.remove(0);
        due("3: first key", row(x, 0), List.of(512, 768, 1024));
        due("3: merged down to depth 0", List.of(x.globalDepth(), x.merges(), x.halvings()), List.of(0, 8, 8));
        x.remove(1024);
        x.put(5, 1);
        due("3: last key", row(x, 0), List.of(512, 768, 5));

        TwinHashTables y = with(range(8, 1));
        due("3: linear before", List.of(linearRow(y, 1), linearRow(y, 3)), List.of(List.of(3, 7), List.of(1, 5)));
        y.setLoads(50, 200);
        y.remove(100);
        due("3: absent takes nothing back", y.linearBuckets(), 4);
        y.remove(7);
        due("3: 700 of 50 * 4 * 3, still 4", y.linearBuckets(), 4);
        y.remove(0);
        due("3: 600 is not fewer than 50 * 4 * 3", y.linearBuckets(), 4);
        y.remove(6);
        due("3: 500 is fewer", List.of(y.linearBuckets(), y.level(), y.pointer()), List.of(3, 1, 1));
        due("3: the last bucket goes behind", linearRow(y, 1), List.of(3, 1, 5));
    }

    private static void promises4And5() {
        TwinHashTables x = with(range(100, 650));
        due("4: absent", x.get(1), -1);
        due("5: absent", x.getByLinear(1), -1);
        for (int key = 0; key < 65000; key += 650) {
            due("4: " + key, x.get(key), key + 1);
            due("5: " + key, x.getByLinear(key), key + 1);
        }
        x.put(650, 0);
        due("4: value 0", x.get(650), 0);
        due("5: value 0", x.getByLinear(650), 0);
        wrongKeys("4: key", x::get);
        wrongKeys("5: key", x::getByLinear);
        due("4: highest key", with(65535).get(65535), 65536);
        due("5: highest key", with(65535).getByLinear(65535), 65536);
    }

    private static void promise6() {
        TwinHashTables x = with(range(120, 3));
        due("6: full", x.size(), 120);
        x.put(3, 3);
        due("6: replaced", x.size(), 120);
        x.remove(3);
        x.remove(4);
        due("6: removed", x.size(), 119);
        due("6: empty", new TwinHashTables().size(), 0);
    }

    private static void promise7() {
        TwinHashTables x = with(0, 256, 512, 768, 1024, 5, 7, 9);
        x.remove(768);
        x.remove(1024);
        x.rebuild(2);
        x.setLoads(10, 60);
        x.put(11, 1);
        List<Integer> before = counts(x);
        due("7: keys before", x.clear(), 7);
        due("7: as at first", shape(x), List.of(0, 0, 1, 0, 1, 0, 0, 0, 0));
        due("7: one bucket", List.of(x.localDepth(0), x.bucketSize(0), x.linearSize(0)), List.of(0, 0, 0));
        due("7: counts stay", counts(x), before);
        due("7: gone", List.of(x.get(0), x.getByLinear(0), x.remove(5)), List.of(-1, -1, -1));
        due("7: nothing to clear", x.clear(), 0);
        due("7: loads stay", x.setLoads(30, 80), 60);
        due("7: capacity stays", x.rebuild(3), 2);
        putAll(x, 4, 2);
        due("7: filled again", List.of(row(x, 0), linearRow(x, 0)), List.of(List.of(4, 2), List.of(4, 2)));
        TwinHashTables full = with(range(120, 1));
        due("7: full", full.clear(), 120);
        putAll(full, range(120, 2));
        due("7: full again", full.size(), 120);
    }

    private static void promise8() {
        TwinHashTables x = with(4, 2, 6, 0);
        due("8: counts before", counts(x), List.of(2, 0, 2, 0, 1));
        due("8: capacity before", x.rebuild(1), 3);
        // 0; 2 splits to depth 2; 4 shares 2 bits with 0 and splits it to depth 3; 6 then splits 2's.
        due("8: splits and doublings are counted", counts(x), List.of(5, 0, 6, 0, 5));
        due("8: all keys stay", List.of(x.size(), x.get(4), x.getByLinear(6), x.buckets()), List.of(4, 5, 7, 5));
        due("8: to 5", x.rebuild(5), 1);
        due("8: by rising keys", row(x, 0), List.of(0, 2, 4, 6));
        due("8: linear by rising keys", linearRow(x, 0), List.of(0, 2, 4, 6));
        due("8: no merges or halvings", counts(x), List.of(5, 0, 6, 0, 5));
        due("8: the same capacity", x.rebuild(5), 5);
        thrown("8: capacity", ARGUMENT, () -> x.rebuild(0), () -> x.rebuild(6), () -> x.rebuild(-1),
            () -> x.rebuild(MIN), () -> x.rebuild(MAX));
        due("8: nothing changed", row(x, 0), List.of(0, 2, 4, 6));
        due("8: still 5", x.rebuild(2), 5);
        TwinHashTables y = with(9, 8, 7);
        y.remove(8);
        y.put(8, 80);
        y.rebuild(3);
        due("8: the same capacity orders too", row(y, 0), List.of(7, 8, 9));
        due("8: values stay", List.of(y.get(7), y.get(8), y.get(9)), List.of(8, 80, 10));
        due("8: one linear split more", y.linearSplits(), 2);
        TwinHashTables full = with(range(120, 541));
        full.rebuild(1);
        due("8: full", List.of(full.size(), full.get(119 * 541), full.linearBuckets()), List.of(120, 64380, 150));
    }

    private static void promise9() {
        TwinHashTables x = new TwinHashTables();
        due("9: before", x.setLoads(0, 50), 80);
        due("9: least", x.setLoads(25, 50), 50);
        due("9: half of an odd one", x.setLoads(25, 51), 50);
        due("9: most", x.setLoads(50, 200), 51);
        due("9: 50 of 100", x.setLoads(50, 100), 200);
        thrown("9: low", ARGUMENT, () -> x.setLoads(-1, 100), () -> x.setLoads(51, 200), () -> x.setLoads(51, 102),
            () -> x.setLoads(26, 50), () -> x.setLoads(26, 51), () -> x.setLoads(50, 99), () -> x.setLoads(MIN, 80),
            () -> x.setLoads(MAX, 80));
        thrown("9: high", ARGUMENT, () -> x.setLoads(0, 49), () -> x.setLoads(0, 201), () -> x.setLoads(0, MIN),
            () -> x.setLoads(0, MAX), () -> x.setLoads(0, -1));
        due("9: nothing changed", x.setLoads(30, 80), 100);

        TwinHashTables y = with(1, 2, 3, 4);
        y.setLoads(0, 50);
        due("9: no bucket is split", y.linearBuckets(), 2);
        y.put(5, 1);
        due("9: from now on: 500 of 50 * 3 * 4", y.linearBuckets(), 4);
        y.setLoads(50, 100);
        due("9: nothing is taken back", y.linearBuckets(), 4);
        y.remove(5);
        due("9: from now on: 400 of 50 * 3 * 2", y.linearBuckets(), 2);
        y.setLoads(0, 100);
        for (int key = 1; key < 5; key++) {
            y.remove(key);
        }
        due("9: low 0 takes nothing back", y.linearBuckets(), 2);
    }

    private static void promise10() {
        TwinHashTables x = new TwinHashTables();
        due("10: 0", x.hashOf(0), 0);
        due("10: 1", x.hashOf(1), 40503);
        due("10: 2", x.hashOf(2), 15470);
        due("10: 65535", x.hashOf(65535), 25033);
        due("10: 32768", x.hashOf(32768), 32768);
        wrongKeys("10: key", x::hashOf);
        TreeSet<Integer> hashes = new TreeSet<>();
        for (int key = 0; key <= 65535; key++) {
            x = key % 500 == 0 ? new TwinHashTables() : x;
            hashes.add(x.hashOf(key));
        }
        due("10: no two the same", List.of(hashes.size(), hashes.first(), hashes.last()), List.of(65536, 0, 65535));
    }

    // ---- the extendible table

    private static void promises11To14() {
        TwinHashTables x = with(0, 1, 2);
        due("11: none beyond the capacity", List.of(x.globalDepth(), x.buckets(), x.localDepth(0)), List.of(0, 1, 0));
        x.put(3, 1);
        due("11: one doubling", List.of(x.globalDepth(), x.buckets(), x.localDepth(1)), List.of(1, 2, 1));
        putAll(x, 4, 6);
        due("11: two", x.globalDepth(), 2);
        due("12: three", x.buckets(), 3);
        due("13: all slots", List.of(x.localDepth(0), x.localDepth(1), x.localDepth(2), x.localDepth(3)),
            List.of(2, 1, 2, 1));
        due("14: all slots", List.of(x.bucketSize(0), x.bucketSize(1), x.bucketSize(2), x.bucketSize(3)),
            List.of(2, 2, 2, 2));
        x.put(5, 1);
        due("14: shared", List.of(x.bucketSize(1), x.bucketSize(3)), List.of(3, 3));
        wrongIndexes("13: slot", 4, x::localDepth);
        wrongIndexes("14: slot", 4, x::bucketSize);
        TwinHashTables deep = with(0, 256, 512, 768, 1024);
        due("11: at most 8", deep.globalDepth(), 8);
        due("12: nine", deep.buckets(), 9);
        due("13: at most 8", List.of(deep.localDepth(0), deep.localDepth(128), deep.localDepth(64), deep.localDepth(255)),
            List.of(8, 8, 7, 1));
        due("14: beyond the capacity", List.of(deep.bucketSize(0), deep.bucketSize(128)), List.of(5, 0));
        wrongIndexes("13: slot of 256", 256, deep::localDepth);
        wrongIndexes("14: slot of 256", 256, deep::bucketSize);
        deep.remove(0);
        deep.remove(256);
        wrongIndexes("13: slot after halving", 1, deep::localDepth);
        wrongIndexes("14: slot after halving", 1, deep::bucketSize);
    }

    private static void promise15() {
        TwinHashTables x = with(0, 1, 2, 3, 4);
        due("15: keys", List.of(x.keyAt(0, 0), x.keyAt(0, 1), x.keyAt(0, 2), x.keyAt(1, 0), x.keyAt(1, 1)),
            List.of(0, 2, 4, 1, 3));
        wrongIndexes("15: slot", 2, slot -> x.keyAt(slot, 0));
        wrongIndexes("15: place", 3, place -> x.keyAt(0, place));
        wrongIndexes("15: place in the other", 2, place -> x.keyAt(1, place));
        thrown("15: empty", INDEX, () -> new TwinHashTables().keyAt(0, 0));
        x.remove(0);
        due("15: moved up", List.of(x.keyAt(0, 0), x.keyAt(0, 1)), List.of(2, 4));
        wrongIndexes("15: place after removal", 2, place -> x.keyAt(0, place));
    }

    private static void promise16() {
        TwinHashTables x = new TwinHashTables();
        due("16: depth 0", x.slotOf(65535), 0);
        putAll(x, 0, 1, 2, 3, 4, 6);
        due("16: depth 2", List.of(x.slotOf(0), x.slotOf(1), x.slotOf(2), x.slotOf(3), x.slotOf(4), x.slotOf(65535)),
            List.of(0, 3, 2, 1, 0, 1));
        wrongKeys("16: key", x::slotOf);
        TwinHashTables deep = with(0, 256, 512, 768);
        due("16: depth 8", List.of(deep.slotOf(1), deep.slotOf(2), deep.slotOf(65535), deep.slotOf(256)),
            List.of(40503 % 256, 15470 % 256, 25033 % 256, 0));
    }

    private static void promise17() {
        TwinHashTables x = new TwinHashTables();
        due("17: depth 0", x.buddyOf(0), -1);
        wrongIndexes("17: slot", 1, x::buddyOf);
        putAll(x, 0, 1, 2, 3);
        due("17: two", List.of(x.buddyOf(0), x.buddyOf(1)), List.of(1, 0));
        putAll(x, 4, 6);
        due("17: four slots", List.of(x.buddyOf(0), x.buddyOf(1), x.buddyOf(2), x.buddyOf(3)),
            List.of(2, -1, 0, -1));
        putAll(x, 5, 7);
        due("17: all of depth 2", List.of(x.buddyOf(0), x.buddyOf(1), x.buddyOf(2), x.buddyOf(3)),
            List.of(2, 3, 0, 1));
        wrongIndexes("17: slot of four", 4, x::buddyOf);
        // 8 and 12 split slot 0 of four slots: the buckets of slots 1, 2 and 3 now have two slots each.
        putAll(x, 8, 12);
        due("17: the lowest slot", List.of(x.globalDepth(), x.buddyOf(5), x.buddyOf(7), x.buddyOf(6), x.buddyOf(4)),
            List.of(3, 3, 1, -1, 0));
        TwinHashTables deep = with(0, 256, 512, 768);
        due("17: depth 8", List.of(deep.buddyOf(0), deep.buddyOf(128), deep.buddyOf(64)), List.of(128, 0, -1));
    }

    private static void promise18() {
        TwinHashTables x = with(range(3, 256));
        due("18: none", x.overflowPages(), 0);
        putAll(x, 768);
        due("18: one key beyond", x.overflowPages(), 1);
        putAll(x, 1024, 1280);
        due("18: one page is full", x.overflowPages(), 1);
        putAll(x, 1536);
        due("18: two", x.overflowPages(), 2);
        putAll(x, 1, 257, 513, 769);
        due("18: of all buckets together", x.overflowPages(), 3);
        TwinHashTables one = new TwinHashTables();
        one.rebuild(1);
        due("18: empty, capacity 1", one.overflowPages(), 0);
        putAll(one, range(4, 256));
        due("18: capacity 1", one.overflowPages(), 3);
        one.rebuild(2);
        due("18: capacity 2", one.overflowPages(), 1);
        one.rebuild(5);
        due("18: capacity 5", one.overflowPages(), 0);
    }

    private static void promise19() {
        TwinHashTables x = with(range(7, 256));
        due("19: in the bucket", List.of(x.probes(0), x.probes(256), x.probes(512)), List.of(1, 1, 1));
        due("19: first page", List.of(x.probes(768), x.probes(1280)), List.of(2, 2));
        due("19: second page", x.probes(1536), 3);
        due("19: all of them", x.probes(1792), 3);
        due("19: another bucket", x.probes(1), 1);
        x.remove(1536);
        due("19: one page less", List.of(x.probes(1536), x.probes(1280)), List.of(2, 2));
        wrongKeys("19: key", x::probes);
        TwinHashTables one = new TwinHashTables();
        one.rebuild(1);
        due("19: empty, capacity 1", one.probes(0), 1);
        putAll(one, range(3, 256));
        due("19: capacity 1", List.of(one.probes(0), one.probes(256), one.probes(512), one.probes(768)),
            List.of(1, 2, 3, 3));
    }

    private static void promises20To23() {
        TwinHashTables x = with(0, 256, 512, 768);
        due("20 to 23: depth 8 at once", counts(x), List.of(8, 0, 8, 0, 1));
        putAll(x, 1, 3, 5);
        due("20 to 23: room in slot 1", counts(x), List.of(8, 0, 8, 0, 2));
        putAll(x, 7);
        due("22: a split without a doubling", counts(x), List.of(8, 0, 9, 0, 3));
        x.remove(7);
        due("23: a merge without a halving", counts(x), List.of(8, 0, 9, 1, 3));
        x.remove(512);
        // 0, 256 and 768 go up to depth 1, whose buddy has 1, 3 and 5.
        due("21: halved to depth 1", counts(x), List.of(8, 7, 9, 8, 3));
        due("21: depth 1", List.of(x.globalDepth(), x.buckets()), List.of(1, 2));
        x.remove(1);
        due("23: too many together", counts(x), List.of(8, 7, 9, 8, 3));
        x.remove(0);
        due("23: four together", List.of(x.globalDepth(), x.merges()), List.of(1, 8));
        x.remove(3);
        due("21: at depth 0", counts(x), List.of(8, 8, 9, 9, 2));
        x.clear();
        due("20 to 23: after clearing", counts(x), List.of(8, 8, 9, 9, 2));
    }

    private static void promise23Order() {
        TwinHashTables x = with(3, 1, 2, 4);
        x.remove(3);
        due("23: bit 0 first, by the removal from 1", row(x, 0), List.of(2, 4, 1));
        TwinHashTables y = with(3, 1, 2, 4);
        y.remove(2);
        due("23: bit 0 first, by the removal from 0", row(y, 0), List.of(4, 3, 1));
        // At depth 2 slot 2's bucket has no buddy: slot 0's is split further.
        TwinHashTables z = with(0, 8, 16, 24, 2);
        int depth = z.localDepth(2);
        z.remove(2);
        due("23: no buddy of the same depth", List.of(z.localDepth(2), z.merges()), List.of(depth, 0));
    }

    // ---- scanning the extendible table

    private static void promise24() {
        TwinHashTables x = new TwinHashTables();
        due("24: depth 0", List.of(x.slotAt(0), x.slotAt(255)), List.of(0, 0));
        putAll(x, 0, 1, 2, 3, 4, 6);
        due("24: depth 2", List.of(x.slotAt(0), x.slotAt(3), x.slotAt(4), x.slotAt(254)), List.of(0, 3, 0, 2));
        TwinHashTables deep = with(0, 256, 512, 768);
        due("24: depth 8", List.of(deep.slotAt(0), deep.slotAt(170), deep.slotAt(255)), List.of(0, 170, 255));
        wrongCursors("24: cursor", x::slotAt);
    }

    private static void promise25() {
        TwinHashTables x = new TwinHashTables();
        due("25: one bucket", List.of(x.nextCursor(0), x.nextCursor(255)), List.of(0, 0));
        putAll(x, 0, 1, 2, 3);
        due("25: two", List.of(x.nextCursor(0), x.nextCursor(1), x.nextCursor(254)), List.of(1, 0, 1));
        putAll(x, 4, 6);
        due("25: three", List.of(x.nextCursor(0), x.nextCursor(2), x.nextCursor(1)), List.of(2, 1, 0));
        due("25: higher bits do not matter", List.of(x.nextCursor(4), x.nextCursor(6), x.nextCursor(3), x.nextCursor(251)),
            List.of(2, 1, 0, 0));
        TwinHashTables deep = with(0, 256, 512, 768);
        due("25: depth 8", List.of(deep.nextCursor(0), deep.nextCursor(128), deep.nextCursor(64), deep.nextCursor(1)),
            List.of(128, 64, 32, 0));
        wrongCursors("25: cursor", deep::nextCursor);
    }

    private static void promise25Scan() {
        TwinHashTables x = with(range(60, 13));
        List<Integer> seen = new ArrayList<>();
        int cursor = 0;
        do {
            seen.addAll(row(x, x.slotAt(cursor)));
            cursor = x.nextCursor(cursor);
        } while (cursor != 0 && seen.size() <= 60);
        due("25: each key once", List.of(seen.size(), new TreeSet<>(seen).size()), List.of(60, 60));

        TwinHashTables y = with(range(30, 1));
        TreeSet<Integer> met = new TreeSet<>();
        int added = 1000;
        do {
            met.addAll(row(y, y.slotAt(cursor)));
            cursor = y.nextCursor(cursor);
            y.put(added, 0);
            y.put(added + 1, 0);
            y.remove(added - 1);
            added += 2;
        } while (cursor != 0 && added < 1100);
        due("25: no key lost while buckets split and merge", met.headSet(30).size(), 30);
        due("25: the scan ended", cursor, 0);
    }

    // ---- the linear table

    private static void promises26To28() {
        TwinHashTables x = new TwinHashTables();
        List<List<Integer>> seen = new ArrayList<>();
        for (int key = 0; key < 10; key++) {
            x.put(key, key);
            seen.add(List.of(x.linearBuckets(), x.level(), x.pointer()));
        }
        due("26 to 28: splits", seen, List.of(List.of(1, 0, 0), List.of(1, 0, 0), List.of(2, 1, 0), List.of(2, 1, 0),
            List.of(3, 1, 1), List.of(3, 1, 1), List.of(3, 1, 1), List.of(4, 2, 0), List.of(4, 2, 0), List.of(5, 2, 1)));
        seen.clear();
        for (int key = 0; key < 10; key++) {
            x.remove(key);
            seen.add(List.of(x.linearBuckets(), x.level(), x.pointer()));
        }
        due("26 to 28: taken back", seen, List.of(List.of(5, 2, 1), List.of(5, 2, 1), List.of(5, 2, 1),
            List.of(5, 2, 1), List.of(5, 2, 1), List.of(4, 2, 0), List.of(3, 1, 1), List.of(2, 1, 0), List.of(1, 0, 0),
            List.of(1, 0, 0)));
        x.rebuild(1);
        x.setLoads(0, 50);
        putAll(x, range(120, 7));
        due("26 to 28: most", List.of(x.linearBuckets(), x.level(), x.pointer()), List.of(240, 7, 112));
        TwinHashTables y = new TwinHashTables();
        y.setLoads(0, 100);
        putAll(y, 0, 1, 2);
        due("26: 300 is not more than 100 * 3", y.linearBuckets(), 1);
        y.put(3, 1);
        due("26: 400 is more", y.linearBuckets(), 2);
    }

    private static void promise29() {
        TwinHashTables x = with(range(7, 1));
        due("29: sizes", List.of(x.linearSize(0), x.linearSize(1), x.linearSize(2)), List.of(2, 3, 2));
        wrongIndexes("29: bucket", 3, x::linearSize);
        x.put(7, 1);
        due("29: after a split", List.of(x.linearSize(1), x.linearSize(3)), List.of(2, 2));
        wrongIndexes("29: bucket of four", 4, x::linearSize);
        x.clear();
        due("29: empty", x.linearSize(0), 0);
        wrongIndexes("29: bucket of one", 1, x::linearSize);
    }

    private static void promise30() {
        TwinHashTables x = with(6, 5, 4, 3, 2, 1, 0);
        due("30: keys", List.of(linearRow(x, 0), linearRow(x, 1), linearRow(x, 2)),
            List.of(List.of(4, 0), List.of(5, 3, 1), List.of(6, 2)));
        wrongIndexes("30: bucket", 3, bucket -> x.linearKeyAt(bucket, 0));
        wrongIndexes("30: place", 3, place -> x.linearKeyAt(1, place));
        thrown("30: empty", INDEX, () -> new TwinHashTables().linearKeyAt(0, 0));
        x.remove(5);
        due("30: moved up", linearRow(x, 1), List.of(3, 1));
        wrongIndexes("30: place after removal", 2, place -> x.linearKeyAt(1, place));
    }

    private static void promise31() {
        TwinHashTables x = new TwinHashTables();
        due("31: one bucket", x.linearBucketOf(65535), 0);
        putAll(x, range(7, 1));
        due("31: three", List.of(x.linearBucketOf(0), x.linearBucketOf(1), x.linearBucketOf(2), x.linearBucketOf(3),
            x.linearBucketOf(100), x.linearBucketOf(65535)), List.of(0, 1, 2, 1, 0, 1));
        wrongKeys("31: key", x::linearBucketOf);
        x.put(7, 1);
        due("31: four", List.of(x.linearBucketOf(1), x.linearBucketOf(3), x.linearBucketOf(65535)), List.of(3, 1, 1));
    }

    private static void promise32() {
        TwinHashTables x = new TwinHashTables();
        x.setLoads(0, 200);
        putAll(x, 0, 2, 4);
        due("32: none", x.linearOverflowPages(), 0);
        x.put(1, 1);
        due("32: one", List.of(x.linearBuckets(), x.linearOverflowPages()), List.of(1, 1));
        putAll(x, 3, 5);
        due("32: a full one", List.of(x.linearBuckets(), x.linearOverflowPages()), List.of(1, 1));
        x.put(6, 1);
        due("32: of both buckets", List.of(x.linearSize(0), x.linearSize(1), x.linearOverflowPages()), List.of(4, 3, 1));
        putAll(x, 7, 9);
        due("32: together", List.of(x.linearSize(0), x.linearSize(1), x.linearOverflowPages()), List.of(4, 5, 2));
        x.clear();
        due("32: empty", x.linearOverflowPages(), 0);
        x.rebuild(1);
        due("32: empty, capacity 1", x.linearOverflowPages(), 0);
        putAll(x, 0, 256);
        due("32: capacity 1", x.linearOverflowPages(), 1);
    }

    private static void promise33() {
        TwinHashTables x = with(range(7, 256));
        due("33: all in bucket 0", x.linearSize(0), 7);
        due("33: in the bucket", List.of(x.linearProbes(0), x.linearProbes(512)), List.of(1, 1));
        due("33: first page", List.of(x.linearProbes(768), x.linearProbes(1280)), List.of(2, 2));
        due("33: second page", x.linearProbes(1536), 3);
        due("33: all of them", x.linearProbes(1792), 3);
        due("33: another bucket", x.linearProbes(1), 1);
        wrongKeys("33: key", x::linearProbes);
        due("33: empty", new TwinHashTables().linearProbes(0), 1);
    }

    private static void promise34() {
        TwinHashTables x = new TwinHashTables();
        due("34: empty", x.load(), 0);
        x.put(0, 1);
        due("34: rounded down", x.load(), 33);
        x.put(1, 1);
        due("34: two of three", x.load(), 66);
        x.put(2, 1);
        due("34: three of six", x.load(), 50);
        x.rebuild(5);
        due("34: three of five", x.load(), 60);
        x.rebuild(1);
        due("34: three of four", x.load(), 75);
        x.setLoads(0, 200);
        putAll(x, 3, 4, 5, 6, 7);
        due("34: eight of four", x.load(), 200);
    }

    private static void promise35() {
        TwinHashTables x = with(range(10, 1));
        due("35: splits", x.linearSplits(), 4);
        for (int key = 0; key < 7; key++) {
            x.remove(key);
        }
        due("35: taken back", x.linearSplits(), 2);
        x.clear();
        due("35: clearing takes back none", x.linearSplits(), 2);
        putAll(x, 0, 1, 2);
        due("35: on top", x.linearSplits(), 3);
        x.rebuild(3);
        due("35: by rebuilding", x.linearSplits(), 4);
    }
}
