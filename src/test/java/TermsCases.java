import java.util.ArrayList;
import java.util.HashSet;
import java.util.List;
import java.util.Set;
import java.util.TreeSet;
import java.util.function.IntConsumer;

/** The sentences of "What it is" and "Terms". */
final class TermsCases extends Cases {
    TermsCases(Ledger ledger) {
        super(ledger);
    }

    @Override
    void check() {
        section("What it is");
        test(this::twoTables);
        test(this::the512thCall);
        section("Terms");
        leaveOut("Ahead of the calls");
        test(this::aScanLosesNoKey);
        test(this::ranges);
        test(this::theHashWrapsAround);
        test(this::lowestBit);
        test(this::capacityAtFirst);
        test(this::overflowPages);
        test(this::globalDepthAndSlots);
        test(this::sharedBuckets);
        test(this::oneBucketAtFirst);
        test(this::puttingSplits);
        test(this::splittingDoubles);
        test(this::removingMovesUp);
        test(this::removingMerges);
        test(this::mergingGoesOn);
        test(this::halving);
        test(this::linearBucketsAreCounted);
        test(this::linearBucketOfAHash);
        test(this::linearPutting);
        test(this::linearSplitting);
        test(this::linearRemovingMovesUp);
        test(this::linearTakingBack);
        test(this::loadsAtFirst);
        test(this::throwingChangesNothing);
    }

    // ---- What it is

    private void twoTables() {
        sentence("A store of values under keys that keeps two hash tables side by side: an extendible one, whose directory"
            + " doubles and halves, and a linear one, whose buckets are split one after the other.");
        TwinHashTables x = with(0, 1, 2);
        due("three keys", List.of(x.globalDepth(), x.linearBuckets()), List.of(0, 2));
        put(x, 3);
        due("doubled", List.of(x.globalDepth(), x.linearBuckets()), List.of(1, 2));
        put(x, 4);
        due("bucket 0 is split, then bucket 0 of two", List.of(x.linearBuckets(), x.pointer()), List.of(3, 1));
        remove(x, 3, 4);
        due("halved", List.of(x.globalDepth(), x.linearBuckets()), List.of(0, 3));
    }

    private void the512thCall() {
        sentence("An object is used for at most 512 calls after it has been made; what later calls answer is free.");
        TwinHashTables x = new TwinHashTables();
        for (int call = 1; call <= 511; call++) {
            x.put(key(call % 120), call);
        }
        due("a put, 511 puts behind", x.put(key(511 % 120), 7), 511);
        TwinHashTables y = new TwinHashTables();
        put(y, alike(8));
        for (int call = 9; call <= 511; call += 2) {
            remove(y, 256 * 7);
            if (call < 511) {
                put(y, 256 * 7);
            }
        }
        due("the 512th call, after 252 removals", y.probes(key(256 * 7)), 3);
        TwinHashTables z = new TwinHashTables();
        put(z, upTo(120));
        for (int call = 121; call <= 511; call++) {
            z.rebuild(1 + call % 5);
        }
        due("the 512th call, after 391 times rebuilding", z.getByLinear(key(119)), 119);
    }

    // ---- the store

    private void aScanLosesNoKey() {
        sentence("Callers put, get and remove; they ask either table for its depths, buckets and overflow pages, and scan the"
            + " extendible one with a cursor that loses no key while buckets split and merge.");
        Set<Integer> kept = Set.of(0, 1, 2, 3, 4, 5, 6, 7, 8, 9, 10, 11);
        TwinHashTables growing = with(upTo(12));
        due("while buckets split", metByAScan(growing, step -> put(growing, 12 + 3 * step, 13 + 3 * step, 14 + 3 * step))
            .containsAll(kept), true);
        TwinHashTables shrinking = with(upTo(100));
        due("while buckets merge", metByAScan(shrinking, step -> remove(shrinking, hashes(6, i -> 99 - 6 * step - i)))
            .containsAll(Set.of(0, 1, 2, 3, 4, 5, 6, 7)), true);
        TwinHashTables both = with(upTo(40));
        due("while buckets split and merge", metByAScan(both, step -> {
            remove(both, hashes(9, i -> 12 + (9 * step + i) % 27));
            put(both, hashes(9, i -> 12 + (9 * step + i + 5) % 27));
        }).containsAll(kept), true);

        TwinHashTables x = with(0, 2, 1, 3);
        due("the first bucket of two", bucket(x, x.slotAt(0)), List.of(0, 2));
        int cursor = x.nextCursor(0);
        put(x, 5, 7);
        due("the second one, split since", bucket(x, x.slotAt(cursor)), List.of(1, 5));
        cursor = x.nextCursor(cursor);
        due("its other half", bucket(x, x.slotAt(cursor)), List.of(3, 7));
        due("the end", x.nextCursor(cursor), 0);
    }

    /** The hashes that a scan meets, if the table is changed behind each of its steps. */
    private static Set<Integer> metByAScan(TwinHashTables x, IntConsumer change) {
        Set<Integer> met = new HashSet<>();
        int cursor = 0;
        int step = 0;
        do {
            met.addAll(bucket(x, x.slotAt(cursor)));
            cursor = x.nextCursor(cursor);
            change.accept(step);
            step++;
        } while (cursor != 0 && step < 16);
        return cursor == 0 ? met : Set.of();
    }

    private void ranges() {
        sentence("Keys are 0 to 65535, values 0 to 999999; the store has at most 120 keys.");
        TwinHashTables x = new TwinHashTables();
        due("least", List.of(x.put(0, 0), x.get(0), x.getByLinear(0)), List.of(-1, 0, 0));
        due("greatest", List.of(x.put(65535, 999999), x.get(65535), x.getByLinear(65535)), List.of(-1, 999999, 999999));
        refused(ARGUMENT, Cases::few, y -> y.put(-1, 0), y -> y.put(65536, 0), y -> y.put(key(2), -1),
            y -> y.put(key(2), 1000000));
        TwinHashTables y = with(upTo(119));
        due("the 120th key", List.of(y.put(key(119), 1), y.size(), y.get(key(119))), List.of(-1, 120, 1));
        thrown("the 121st key", STATE, y, z -> z.put(key(120), 1));
        due("120 keys", List.of(y.size(), y.get(key(120))), List.of(120, -1));
    }

    private void theHashWrapsAround() {
        sentence("The hash of a key is key * 40503, modulo 65536 (no two keys have the same one).");
        TwinHashTables x = new TwinHashTables();
        due("within 65536", List.of(x.hashOf(0), x.hashOf(1)), List.of(0, 40503));
        due("beyond 65536", List.of(x.hashOf(2), x.hashOf(3)), List.of(15470, 55973));
        due("the greatest product below 2 to the power of 31", x.hashOf(53020), 50948);
        due("the least product above it", x.hashOf(53021), 25915);
        due("the greatest keys", List.of(x.hashOf(65534), x.hashOf(65535)), List.of(50066, 25033));
        TreeSet<Integer> hashes = new TreeSet<>();
        for (int key = 0; key <= 65535; key++) {
            x = key % 500 == 0 ? new TwinHashTables() : x;
            hashes.add(x.hashOf(key));
        }
        due("no two the same", List.of(hashes.size(), hashes.first(), hashes.last()), List.of(65536, 0, 65535));
    }

    private void lowestBit() {
        sentence("Bit 0 of a hash is the lowest one.");
        TwinHashTables x = with(0, 1, 32768, 32769);
        due("extendible", List.of(bucket(x, 0), bucket(x, 1)), List.of(List.of(0, 32768), List.of(1, 32769)));
        due("linear", List.of(linear(x, 0), linear(x, 1)), List.of(List.of(0, 32768), List.of(1, 32769)));
    }

    // ---- the extendible table

    private void capacityAtFirst() {
        sentence("A bucket is a list of keys in a certain order; its capacity is 3 at first, for the buckets of both tables.");
        TwinHashTables x = new TwinHashTables();
        x.setLoads(0, 200);
        put(x, 4, 0, 2);
        due("in the order of putting", List.of(bucket(x, 0), linear(x, 0)), List.of(List.of(4, 0, 2), List.of(4, 0, 2)));
        due("three keys fill them", List.of(x.splits(), x.linearOverflowPages(), x.load()), List.of(0, 0, 100));
        put(x, 1);
        due("four are more", List.of(x.splits(), x.linearOverflowPages(), x.load()), List.of(1, 1, 133));
        put(x, 3, 5);
        due("six are twice as many", List.of(x.linearBuckets(), x.linearOverflowPages(), x.load()), List.of(1, 1, 200));
        put(x, 6);
        due("seven are more", List.of(x.linearBuckets(), x.load()), List.of(2, 116));
        due("told by rebuild", new TwinHashTables().rebuild(3), 3);
    }

    private void overflowPages() {
        sentence("A bucket with more keys than the capacity has overflow pages: as many as are needed for the keys beyond the"
            + " capacity, if each page has as many as the capacity.");
        int[][] pagesForKeys = {
            {0, 0, 1, 2, 3, 4, 5, 6, 7, 8, 9, 10}, {0, 0, 0, 1, 1, 2, 2, 3, 3, 4, 4, 5}, {0, 0, 0, 0, 1, 1, 1, 2, 2, 2, 3, 3},
            {0, 0, 0, 0, 0, 1, 1, 1, 1, 2, 2, 2}, {0, 0, 0, 0, 0, 0, 1, 1, 1, 1, 1, 2},
        };
        for (int capacity = 1; capacity <= 5; capacity++) {
            for (int keys = 0; keys <= 11; keys++) {
                TwinHashTables x = new TwinHashTables();
                x.rebuild(capacity);
                put(x, alike(keys));
                int pages = pagesForKeys[capacity - 1][keys];
                due(keys + " keys, capacity " + capacity, List.of(x.overflowPages(), x.linearOverflowPages()),
                    List.of(pages, pages));
            }
        }
    }

    private void globalDepthAndSlots() {
        sentence("The extendible table has a global depth g, 0 at first and at most 8, and a directory with 2 to the power of g"
            + " slots.");
        TwinHashTables first = new TwinHashTables();
        due("at first", List.of(first.globalDepth(), first.localDepth(0)), List.of(0, 0));
        thrown("no slot 1 at first", INDEX, first, x -> x.localDepth(1));
        for (int depth = 1; depth <= 8; depth++) {
            int slots = 1 << depth;
            TwinHashTables x = with(0, slots / 2, slots, slots / 2 * 3);
            due("parted by bit " + (depth - 1), x.globalDepth(), depth);
            due("the last slot of " + slots, List.of(x.localDepth(slots - 1), x.bucketSize(slots - 1)),
                List.of(1, depth == 1 ? 2 : 0));
            thrown("no slot " + slots, INDEX, x, y -> y.localDepth(slots));
        }
        TwinHashTables most = with(alike(5));
        due("at most 8", List.of(most.globalDepth(), most.bucketSize(0)), List.of(8, 5));
        TwinHashTables full = with(alike(120));
        due("at most 8 with 120 keys alike", List.of(full.globalDepth(), full.bucketSize(0), full.bucketSize(255)),
            List.of(8, 120, 0));
    }

    private void sharedBuckets() {
        sentence("A bucket has a local depth l, at most g, and is shared by all slots that have the same lowest l bits; its keys"
            + " are those whose hashes have these lowest l bits.");
        TwinHashTables x = with(0, 2, 4, 1, 6, 7, 65535);
        due("depths", depths(x), List.of(2, 1, 2, 1));
        due("two slots, one bucket", List.of(bucket(x, 1), bucket(x, 3)), List.of(List.of(1, 7, 65535), List.of(1, 7, 65535)));
        due("a slot each", List.of(bucket(x, 0), bucket(x, 2)), List.of(List.of(0, 4), List.of(2, 6)));
        TwinHashTables deep = with(alike(4));
        due("depths up to 8", depths(deep), answers(256, slot -> Math.min(8, Integer.numberOfTrailingZeros(slot) + 1)));
        TwinHashTables odd = with(alike(4));
        put(odd, 1);
        due("128 slots, one bucket", answers(256, odd::bucketSize), answers(256, slot -> slot == 0 ? 4 : slot % 2));
    }

    private void oneBucketAtFirst() {
        sentence("At first there is one bucket, with the local depth 0.");
        TwinHashTables x = new TwinHashTables();
        due("one bucket", List.of(x.buckets(), x.localDepth(0), x.bucketSize(0)), List.of(1, 0, 0));
        put(x, 65535);
        due("for every hash", bucket(x, 0), List.of(65535));
    }

    private void puttingSplits() {
        sentence("When a new key is put: as long as its bucket has as many keys as the capacity, or more, and the local depth is"
            + " below 8, the bucket is split (of the two, the one for the key is looked at next); then the key is added to its"
            + " bucket as the last one.");
        for (int capacity = 1; capacity <= 5; capacity++) {
            TwinHashTables x = new TwinHashTables();
            x.rebuild(capacity);
            put(x, hashes(capacity, i -> 2 * i));
            due("room for " + capacity, List.of(x.splits(), x.bucketSize(0)), List.of(0, capacity));
            put(x, 1);
            due("as many as the capacity " + capacity, List.of(x.splits(), x.bucketSize(0), x.bucketSize(1)),
                List.of(1, capacity, 1));
        }
        TwinHashTables x = with(0, 2, 4, 1);
        due("the one for the key is empty, the other one full", List.of(x.splits(), bucket(x, 0), bucket(x, 1)),
            List.of(1, List.of(0, 2, 4), List.of(1)));
        put(x, 6);
        due("split twice for the key 6", List.of(x.splits(), bucket(x, 0), bucket(x, 2)),
            List.of(2, List.of(0, 4), List.of(2, 6)));
        TwinHashTables last = with(4, 2, 1, 0);
        due("the last one", bucket(last, 0), List.of(4, 2, 0));

        TwinHashTables deep = with(0, 128, 256, 64);
        due("the depth 7 is below 8", List.of(deep.localDepth(0), deep.splits()), List.of(7, 7));
        put(deep, 384);
        due("split to 8", List.of(deep.splits(), bucket(deep, 0), bucket(deep, 128)),
            List.of(8, List.of(0, 256), List.of(128, 384)));
        put(deep, 512, 768);
        due("as many as the capacity, depth 8", List.of(deep.splits(), bucket(deep, 0)), List.of(8, List.of(0, 256, 512, 768)));
        put(deep, 1024);
        due("more than the capacity, depth 8", List.of(deep.splits(), bucket(deep, 0)),
            List.of(8, List.of(0, 256, 512, 768, 1024)));
    }

    private void splittingDoubles() {
        sentence("To split a bucket with the local depth l: if l is the global depth, the directory doubles first, that is, g"
            + " grows by 1, and each new slot shares the bucket of the slot with the same lowest bits; then two buckets with the"
            + " local depth l + 1 take its place, and its keys go, in their order, to the one or the other by bit l of their"
            + " hashes.");
        TwinHashTables x = with(4, 2, 0, 1);
        due("l is g, 0", List.of(x.doublings(), x.globalDepth(), depths(x)), List.of(1, 1, List.of(1, 1)));
        put(x, 6);
        due("l is g, 1", List.of(x.doublings(), x.globalDepth(), depths(x)), List.of(2, 2, List.of(2, 1, 2, 1)));
        due("the new slot 3 shares the bucket of slot 1", bucket(x, 3), List.of(1));
        due("by bit 1, in their order", List.of(bucket(x, 0), bucket(x, 2)), List.of(List.of(4, 0), List.of(2, 6)));
        put(x, 5, 3, 7);
        due("l is below g", List.of(x.doublings(), x.globalDepth(), depths(x)), List.of(2, 2, List.of(2, 2, 2, 2)));
        due("by bit 1 of odd ones", List.of(bucket(x, 1), bucket(x, 3)), List.of(List.of(1, 5), List.of(3, 7)));
        TwinHashTables y = with(0, 2, 4, 6, 1, 3, 5, 8, 12);
        due("from 4 slots to 8", List.of(y.doublings(), depths(y)), List.of(3, List.of(3, 1, 2, 1, 3, 1, 2, 1)));
        due("each new slot", List.of(bucket(y, 4), bucket(y, 5), bucket(y, 6), bucket(y, 7)),
            List.of(List.of(4, 12), List.of(1, 3, 5), List.of(2, 6), List.of(1, 3, 5)));
        put(y, 7);
        due("4 of 8 slots are parted", List.of(y.doublings(), depths(y), bucket(y, 5), bucket(y, 7)),
            List.of(3, List.of(3, 2, 2, 2, 3, 2, 2, 2), List.of(1, 5), List.of(3, 7)));
    }

    private void removingMovesUp() {
        sentence("When a key is removed, the keys behind it move up.");
        TwinHashTables x = with(alike(6));
        remove(x, 512);
        due("from the middle", bucket(x, 0), List.of(0, 256, 768, 1024, 1280));
        remove(x, 0);
        due("the first one", bucket(x, 0), List.of(256, 768, 1024, 1280));
        remove(x, 1280);
        due("the last one", bucket(x, 0), List.of(256, 768, 1024));
        put(x, 2);
        remove(x, 2);
        due("put last and removed", bucket(x, 0), List.of(256, 768, 1024));
        remove(x, 768, 256, 1024);
        due("the only one", bucket(x, 0), List.of());
        put(x, 5);
        due("and put again", bucket(x, 0), List.of(5));
    }

    private void removingMerges() {
        sentence("Then, as long as its bucket has a local depth l above 0, and a buddy (the bucket of the slots whose lowest l"
            + " bits differ from its own in bit l - 1 alone) with the same local depth, and both have no more keys together than"
            + " the capacity, they merge: one bucket with the local depth l - 1 takes the place of both, with the keys of the one"
            + " whose bit l - 1 is 0 first, then those of the other, each in their order.");
        TwinHashTables x = with(0, 2, 1, 3, 5);
        remove(x, 5);
        due("four together", List.of(x.merges(), depths(x)), List.of(0, List.of(1, 1)));
        remove(x, 2);
        due("three together, removed from bit 0", List.of(x.merges(), depths(x), bucket(x, 0)),
            List.of(1, List.of(0), List.of(0, 1, 3)));
        remove(x, 1, 0, 3);
        due("depth 0 has no buddy", List.of(x.merges(), depths(x)), List.of(1, List.of(0)));
        TwinHashTables one = with(3, 1, 4, 2);
        remove(one, 3);
        due("removed from bit 1: bit 0 first, each in their order", bucket(one, 0), List.of(4, 2, 1));

        TwinHashTables y = with(0, 2, 4, 6, 1);
        remove(y, 1);
        due("the buddy is deeper", List.of(y.merges(), depths(y)), List.of(0, List.of(2, 1, 2, 1)));
        TwinHashTables z = with(0, 2, 4, 6, 1, 3, 5);
        remove(z, 4);
        due("by bit 1, and no further with six", List.of(z.merges(), depths(z), bucket(z, 0)),
            List.of(1, List.of(1, 1), List.of(0, 2, 6)));
        for (int capacity = 1; capacity <= 5; capacity++) {
            TwinHashTables c = new TwinHashTables();
            c.rebuild(capacity);
            put(c, hashes(capacity, i -> 2 * i));
            put(c, 1, 3);
            remove(c, 1);
            due("one beyond the capacity " + capacity, c.bucketSize(0), capacity);
            remove(c, 3);
            due("just the capacity " + capacity, List.of(c.merges() > 0, c.globalDepth()), List.of(true, 0));
        }
        TwinHashTables deep = with(alike(5));
        remove(deep, 1024);
        due("four at the depth 8, an empty buddy", List.of(deep.merges(), deep.localDepth(0)), List.of(0, 8));
        remove(deep, 512);
        due("three at the depth 8", List.of(deep.merges() > 0, bucket(deep, 0)), List.of(true, List.of(0, 256, 768)));
    }

    private void mergingGoesOn() {
        sentence("It is looked at next.");
        TwinHashTables x = with(alike(4));
        remove(x, 768);
        due("from the depth 8 to 0", List.of(x.merges(), x.buckets()), List.of(8, 1));
        TwinHashTables y = with(alike(4));
        put(y, 1, 3);
        remove(y, 768);
        due("to 1, where five would be together", List.of(y.merges(), y.buckets(), bucket(y, 0)),
            List.of(7, 2, List.of(0, 256, 512)));
        TwinHashTables z = with(255, 511, 767, 1023);
        remove(z, 255);
        due("where every bit is 1", List.of(z.merges(), bucket(z, 0)), List.of(8, List.of(511, 767, 1023)));
    }

    private void halving() {
        sentence("At last, as long as g is above 0 and no bucket has the local depth g, the directory halves: g falls by 1.");
        TwinHashTables x = with(0, 2, 4, 6, 1, 3, 5, 7);
        remove(x, 7);
        due("another bucket has the depth 2", List.of(x.merges(), x.halvings(), depths(x)),
            List.of(1, 0, List.of(2, 1, 2, 1)));
        remove(x, 6);
        due("none has the depth 2", List.of(x.merges(), x.halvings(), depths(x)), List.of(2, 1, List.of(1, 1)));
        thrown("slot 2 is gone", INDEX, x, y -> y.localDepth(2));
        remove(x, 5, 4, 3);
        due("to 0", List.of(x.halvings(), x.globalDepth()), List.of(2, 0));
        remove(x, 0, 1, 2);
        due("0 does not fall", List.of(x.halvings(), x.globalDepth(), x.localDepth(0)), List.of(2, 0, 0));
        TwinHashTables deep = with(alike(4));
        put(deep, 1, 3);
        remove(deep, 0);
        due("seven at once", List.of(deep.halvings(), depths(deep)), List.of(7, List.of(1, 1)));
        TwinHashTables two = with(0, 256, 512, 768, 1, 257, 513, 769);
        remove(two, 0);
        due("the other bucket of the depth 8", List.of(two.merges(), two.halvings(), two.globalDepth()), List.of(7, 0, 8));
        remove(two, 1);
        due("one of the depth 1", List.of(two.halvings(), two.globalDepth()), List.of(7, 1));
    }

    // ---- the linear table

    private void linearBucketsAreCounted() {
        sentence("The linear table has a level v and a pointer p, both 0 at first, and 2 to the power of v, plus p, buckets,"
            + " numbered from 0.");
        TwinHashTables x = new TwinHashTables();
        due("at first", List.of(linearShape(x), x.linearSize(0)), List.of(List.of(1, 0, 0), 0));
        thrown("no bucket 1 at first", INDEX, x, y -> y.linearSize(1));
        List<List<Integer>> shapes = new ArrayList<>();
        for (int hash = 0; hash < 22; hash++) {
            put(x, hash);
            shapes.add(linearShape(x));
        }
        due("the first splits", shapes.subList(0, 10), List.of(List.of(1, 0, 0), List.of(1, 0, 0), List.of(2, 1, 0),
            List.of(2, 1, 0), List.of(3, 1, 1), List.of(3, 1, 1), List.of(3, 1, 1), List.of(4, 2, 0), List.of(4, 2, 0),
            List.of(5, 2, 1)));
        due("bucket by bucket", shapes.subList(14, 22), List.of(List.of(7, 2, 3), List.of(7, 2, 3), List.of(8, 3, 0),
            List.of(8, 3, 0), List.of(8, 3, 0), List.of(9, 3, 1), List.of(9, 3, 1), List.of(10, 3, 2)));
        due("numbered from 0", answers(10, x::linearSize).stream().mapToInt(size -> size).sum(), 22);
        thrown("no bucket 10", INDEX, x, y -> y.linearSize(10));
    }

    private void linearBucketOfAHash() {
        sentence("With a for the lowest v bits of the hash of a key, its bucket is a, if a is p or more, otherwise the number of"
            + " the lowest v + 1 bits.");
        due("v = 0, p = 0", linearBucketsOf(with(), 0, 1, 2, 65535), List.of(0, 0, 0, 0));
        due("v = 1, p = 0", linearBucketsOf(with(upTo(3)), 0, 1, 2, 3, 4, 65535), List.of(0, 1, 0, 1, 0, 1));
        due("v = 1, p = 1", linearBucketsOf(with(upTo(5)), 0, 1, 2, 3, 4, 65535), List.of(0, 1, 2, 1, 0, 1));
        due("v = 2, p = 0", linearBucketsOf(with(upTo(8)), 0, 1, 2, 3, 4, 5, 6, 7), List.of(0, 1, 2, 3, 0, 1, 2, 3));
        due("v = 2, p = 1", linearBucketsOf(with(upTo(10)), 0, 1, 2, 3, 4, 5, 6, 7, 8, 12),
            List.of(0, 1, 2, 3, 4, 1, 2, 3, 0, 4));
        due("v = 2, p = 3", linearBucketsOf(with(upTo(15)), 0, 1, 2, 3, 4, 5, 6, 7, 15),
            List.of(0, 1, 2, 3, 4, 5, 6, 3, 3));
        TwinHashTables x = with(upTo(10));
        due("the keys are there", List.of(linear(x, 0), linear(x, 1), linear(x, 4)),
            List.of(List.of(0, 8), List.of(1, 5, 9), List.of(4)));
    }

    private static List<Integer> linearBucketsOf(TwinHashTables x, int... hashes) {
        return answers(hashes.length, i -> x.linearBucketOf(key(hashes[i])));
    }

    private void linearPutting() {
        sentence("When a new key is put, it is added to its bucket as the last one.");
        TwinHashTables x = new TwinHashTables();
        x.setLoads(0, 200);
        put(x, 4, 2, 0, 6);
        due("the last one", linear(x, 0), List.of(4, 2, 0, 6));
        put(x, 2);
        due("not new", linear(x, 0), List.of(4, 2, 0, 6));
        put(x, 8, 10, 12);
        due("the last one before the split", linear(x, 0), List.of(4, 2, 0, 6, 8, 10, 12));
        put(x, 3, 1, 14);
        due("of two", List.of(linear(x, 0), linear(x, 1)), List.of(List.of(4, 2, 0, 6, 8, 10, 12, 14), List.of(3, 1)));
    }

    private void linearSplitting() {
        sentence("Then, as long as 100 times the keys of the store are more than the high load times the buckets times the"
            + " capacity, the bucket p is split: there is one bucket more, the last one, and the keys of bucket p whose bit v is"
            + " 1 go there, in their order; p grows by 1, and if it is then 2 to the power of v, v grows by 1 and p is 0.");
        TwinHashTables five = new TwinHashTables();
        five.rebuild(5);
        put(five, upTo(4));
        due("400 is not more than 80 * 1 * 5", linearShape(five), List.of(1, 0, 0));
        put(five, 4);
        due("500 is more: p is 1, so v grows", linearShape(five), List.of(2, 1, 0));
        TwinHashTables x = with(upTo(16));
        due("1600 is not more than 80 * 7 * 3", linearShape(x), List.of(7, 2, 3));
        put(x, 16);
        due("1700 is more: p is 4, so v grows", linearShape(x), List.of(8, 3, 0));

        TwinHashTables odd = with(7, 5, 1, 3, 9);
        due("bucket p is split, not the one of the key", List.of(linearShape(odd), linear(odd, 0), linear(odd, 1)),
            List.of(List.of(3, 1, 1), List.of(), List.of(7, 5, 1, 3, 9)));
        put(odd, 13, 11, 15);
        due("by bit 1, to the last one, in their order", List.of(linearShape(odd), linear(odd, 1), linear(odd, 3)),
            List.of(List.of(4, 2, 0), List.of(5, 1, 9, 13), List.of(7, 3, 11, 15)));

        TwinHashTables y = with(upTo(4));
        y.setLoads(0, 50);
        put(y, 4);
        due("twice by one call: 500 is more than 50 * 3 * 3", linearShape(y), List.of(4, 2, 0));
        y.clear();
        put(y, 0, 1, 2);
        due("300 is not more than 50 * 2 * 3", linearShape(y), List.of(2, 1, 0));
        put(y, 3);
        due("400 is more", linearShape(y), List.of(3, 1, 1));
        TwinHashTables most = new TwinHashTables();
        most.rebuild(1);
        most.setLoads(0, 50);
        put(most, upTo(120));
        due("the most buckets: 12000 is not more than 50 * 240", linearShape(most), List.of(240, 7, 112));
        due("the last one of them", List.of(most.linearSize(239), most.linearSize(111)), List.of(0, 1));
    }

    private void linearRemovingMovesUp() {
        sentence("When a key is removed, the keys behind it move up.");
        TwinHashTables x = with(alike(6));
        remove(x, 512);
        due("from the middle", linear(x, 0), List.of(0, 256, 768, 1024, 1280));
        remove(x, 0);
        due("the first one", linear(x, 0), List.of(256, 768, 1024, 1280));
        remove(x, 1280);
        due("the last one", linear(x, 0), List.of(256, 768, 1024));
        put(x, 1536);
        due("put behind", linear(x, 0), List.of(256, 768, 1024, 1536));
        remove(x, 1536, 768, 256, 1024);
        due("the only one", linear(x, 0), List.of());
        put(x, 2048);
        due("and put again", linear(x, 0), List.of(2048));
    }

    private void linearTakingBack() {
        sentence("Then, as long as there is more than one bucket, and 100 times the keys of the store are fewer than the low"
            + " load times the buckets times the capacity, a split is taken back: if p is 0, v falls by 1, and p becomes 2 to the"
            + " power of v; then p falls by 1, and the keys of the last bucket go behind those of bucket p, in their order; the"
            + " last bucket is gone.");
        TwinHashTables x = with(upTo(22));
        remove(x, hashes(13, i -> 21 - i));
        due("900 are not fewer than 30 * 10 * 3", List.of(x.size(), linearShape(x)), List.of(9, List.of(10, 3, 2)));
        remove(x, 8);
        due("800 are fewer, also than 30 * 9 * 3", linearShape(x), List.of(8, 3, 0));
        thrown("the last bucket is gone", INDEX, x, y -> y.linearSize(8));
        remove(x, 0);
        due("700 are fewer than 30 * 8 * 3: p is 0, so v falls", linearShape(x), List.of(7, 2, 3));
        due("the keys of bucket 7 go behind those of bucket 3", linear(x, 3), List.of(3, 7));

        TwinHashTables y = with(upTo(8));
        y.setLoads(50, 200);
        remove(y, 0, 4);
        due("600 are not fewer than 50 * 4 * 3", linearShape(y), List.of(4, 2, 0));
        remove(y, 2);
        due("500 are", List.of(linearShape(y), linear(y, 1)), List.of(List.of(3, 1, 1), List.of(1, 5, 3, 7)));
        remove(y, 1);
        due("400 are fewer than 50 * 3 * 3", List.of(linearShape(y), linear(y, 0)), List.of(List.of(2, 1, 0), List.of(6)));
        remove(y, 7, 5);
        due("200 are fewer than 50 * 2 * 3: v is 0", List.of(linearShape(y), linear(y, 0)), List.of(List.of(1, 0, 0), List.of(6, 3)));
        remove(y, 3, 6);
        due("0 are fewer than 50 * 1 * 3, but one bucket stays", List.of(linearShape(y), y.linearSplits()),
            List.of(List.of(1, 0, 0), 0));
        y.setLoads(0, 50);
        put(y, upTo(14));
        due("nine splits", List.of(y.linearSplits(), linearShape(y)), List.of(9, List.of(10, 3, 2)));
        y.setLoads(50, 200);
        remove(y, 13);
        due("two taken back by one call: 1300 are fewer than 50 * 9 * 3", linearShape(y), List.of(8, 3, 0));
    }

    private void loadsAtFirst() {
        sentence("At first the high load is 80, the low load 30.");
        due("told by setLoads", new TwinHashTables().setLoads(0, 50), 80);
        TwinHashTables x = new TwinHashTables();
        x.rebuild(5);
        put(x, upTo(4));
        due("a load of 80 splits nothing", List.of(x.load(), x.linearBuckets()), List.of(80, 1));
        TwinHashTables y = with(upTo(17));
        due("1700 of 7 * 3, a load of 80.9, is split", y.linearBuckets(), 8);
        remove(y, hashes(9, i -> i));
        due("800 of 8 * 3", y.linearBuckets(), 8);
        remove(y, 9);
        due("700 of 8 * 3, a load of 29.2, is taken back", y.linearBuckets(), 7);
        TwinHashTables z = with(upTo(22));
        remove(z, upTo(13));
        due("a load of 30 takes nothing back", List.of(z.load(), z.linearBuckets()), List.of(30, 10));
    }

    private void throwingChangesNothing() {
        sentence("When a call throws, nothing has changed; of several exceptions it is the first one of the throws clause.");
        refused(ARGUMENT, Cases::full, x -> x.put(-1, 1), x -> x.put(65536, 1), x -> x.put(key(120), -1),
            x -> x.put(key(120), 1000000), x -> x.put(MIN, MIN), x -> x.put(MAX, MAX));
        refused(STATE, Cases::full, x -> x.put(key(120), 0), x -> x.put(key(65535), 999999));
        refused(ARGUMENT, Cases::few, x -> x.put(key(2), 1000000), x -> x.put(key(10), -1), x -> x.remove(-1),
            x -> x.get(-1), x -> x.getByLinear(-1), x -> x.rebuild(0), x -> x.rebuild(6), x -> x.setLoads(51, 200),
            x -> x.setLoads(0, 201), x -> x.setLoads(26, 51), x -> x.hashOf(65536), x -> x.slotOf(65536),
            x -> x.probes(65536), x -> x.slotAt(256), x -> x.nextCursor(256), x -> x.linearBucketOf(65536),
            x -> x.linearProbes(65536));
        refused(INDEX, Cases::few, x -> x.localDepth(4), x -> x.bucketSize(4), x -> x.keyAt(4, 0), x -> x.keyAt(0, 3),
            x -> x.buddyOf(4), x -> x.linearSize(5), x -> x.linearKeyAt(5, 0), x -> x.linearKeyAt(0, 9));
    }
}
