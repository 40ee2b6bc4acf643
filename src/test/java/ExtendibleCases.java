import java.util.ArrayList;
import java.util.List;
import java.util.TreeSet;

/** The sentences of the promises 11 to 25. */
final class ExtendibleCases extends Cases {
    private static final String KEYS = "- `key`: 0 to 65535";
    private static final String KEY_OUT_OF_RANGE = "Throws `IllegalArgumentException` if key is out of range";
    private static final String NO_SUCH_SLOT = "Throws `IndexOutOfBoundsException` if there is no such slot";
    private static final String CURSORS = "- `cursor`: 0 to 255";
    private static final String CURSOR_OUT_OF_RANGE = "Throws `IllegalArgumentException` if cursor is out of range";

    ExtendibleCases(Ledger ledger) {
        super(ledger);
    }

    @Override
    void check() {
        section("Promise 11");
        test(this::globalDepths);
        section("Promise 12");
        test(this::buckets);
        section("Promise 13");
        test(this::localDepths);
        test(this::localDepthRefuses);
        section("Promise 14");
        test(this::bucketSizes);
        test(this::bucketSizeRefuses);
        section("Promise 15");
        test(this::keysOfBuckets);
        test(this::firstPlace);
        test(this::keyAtRefuses);
        section("Promise 16");
        test(this::slotsOfKeys);
        test(this::slotOfTakesKeys);
        test(this::slotOfRefusesKeys);
        section("Promise 17");
        test(this::buddies);
        test(this::buddyOfRefuses);
        section("Promise 18");
        test(this::overflow);
        section("Promise 19");
        test(this::pagesRead);
        test(this::probesTakesKeys);
        test(this::probesRefusesKeys);
        section("Promise 20");
        test(this::doublings);
        section("Promise 21");
        test(this::halvings);
        section("Promise 22");
        test(this::splits);
        section("Promise 23");
        test(this::merges);
        section("Promise 24");
        test(this::slotsOfCursors);
        test(this::slotAtTakesCursors);
        test(this::slotAtRefusesCursors);
        section("Promise 25");
        test(this::cursorsBehind);
        test(this::wholeScan);
        test(this::reversedBits);
        test(this::nextCursorTakesCursors);
        test(this::nextCursorRefusesCursors);
    }

    // ---- Promises 11 to 14: depths and sizes

    private void globalDepths() {
        sentence("Returns the global depth.");
        TwinHashTables x = new TwinHashTables();
        due("0 at first", x.globalDepth(), 0);
        put(x, 0, 2, 4);
        due("0 with a full bucket", x.globalDepth(), 0);
        put(x, 1);
        due("1", x.globalDepth(), 1);
        put(x, 256, 512, 768);
        due("8, the most", x.globalDepth(), 8);
        put(x, 1024);
        due("8 still", x.globalDepth(), 8);
        remove(x, 256, 512, 768, 1024);
        due("fallen to 1", x.globalDepth(), 1);
        remove(x, 4);
        due("fallen to 0", x.globalDepth(), 0);
        put(x, alike(4));
        x.clear();
        due("cleared", x.globalDepth(), 0);
        put(x, 255, 511, 767, 1023);
        due("of the deepest bucket", List.of(x.globalDepth(), x.localDepth(0)), List.of(8, 1));
    }

    private void buckets() {
        sentence("Returns how many buckets the extendible table has.");
        TwinHashTables x = new TwinHashTables();
        due("one at first", x.buckets(), 1);
        put(x, 0, 2, 4, 6);
        due("three, for four slots", x.buckets(), 3);
        put(x, 1, 3, 5, 7);
        due("four, for four slots", x.buckets(), 4);
        TwinHashTables deep = with(alike(4));
        due("nine, for 256 slots", deep.buckets(), 9);
        remove(deep, 0);
        due("one again", deep.buckets(), 1);
        TwinHashTables most = new TwinHashTables();
        most.rebuild(1);
        put(most, upTo(120));
        due("120 keys, a bucket each", List.of(most.globalDepth(), most.buckets()), List.of(7, 120));
        most.clear();
        due("cleared", most.buckets(), 1);
    }

    private void localDepths() {
        sentence("Returns the local depth of the bucket of a slot.");
        due("0 at first", new TwinHashTables().localDepth(0), 0);
        TwinHashTables x = with(0, 2, 4, 6);
        due("2 and 1", depths(x), List.of(2, 1, 2, 1));
        TwinHashTables deep = with(alike(4));
        due("8, the most, and less", List.of(deep.localDepth(0), deep.localDepth(128), deep.localDepth(64),
            deep.localDepth(192), deep.localDepth(254), deep.localDepth(255)), List.of(8, 8, 7, 7, 2, 1));
        put(deep, 1024, 1, 3, 5, 7);
        due("split below the global depth", List.of(deep.localDepth(0), deep.localDepth(1), deep.localDepth(255)),
            List.of(8, 2, 2));
        remove(deep, 7);
        due("merged", List.of(deep.localDepth(1), deep.localDepth(255)), List.of(1, 1));
    }

    private void localDepthRefuses() {
        sentence(NO_SUCH_SLOT);
        refusesSlots(TwinHashTables::localDepth);
        TwinHashTables x = with(alike(4));
        due("the last one of 256", x.localDepth(255), 1);
        thrown("256", INDEX, x, y -> y.localDepth(256));
        remove(x, 0);
        thrown("1, halved", INDEX, x, y -> y.localDepth(1));
    }

    private void bucketSizes() {
        sentence("Returns how many keys the bucket of a slot has.");
        TwinHashTables x = new TwinHashTables();
        due("none", x.bucketSize(0), 0);
        put(x, 0, 2, 4);
        due("just the capacity", x.bucketSize(0), 3);
        put(x, 6);
        due("split", answers(4, x::bucketSize), List.of(2, 0, 2, 0));
        put(x, 1, 3);
        due("shared", answers(4, x::bucketSize), List.of(2, 2, 2, 2));
        TwinHashTables deep = with(alike(5));
        due("more than the capacity", List.of(deep.bucketSize(0), deep.bucketSize(128), deep.bucketSize(255)), List.of(5, 0, 0));
        TwinHashTables most = with(alike(120));
        due("all keys", most.bucketSize(0), 120);
    }

    private void bucketSizeRefuses() {
        sentence(NO_SUCH_SLOT);
        refusesSlots(TwinHashTables::bucketSize);
        TwinHashTables x = with(alike(4));
        due("the last one of 256", x.bucketSize(255), 0);
        thrown("256", INDEX, x, y -> y.bucketSize(256));
        remove(x, 0);
        thrown("1, halved", INDEX, x, y -> y.bucketSize(1));
    }

    // ---- Promise 15: keyAt

    private void keysOfBuckets() {
        sentence("Returns a key of the bucket of a slot.");
        TwinHashTables x = with(0, 2, 4, 6, 5, 3);
        due("a slot each", List.of(x.keyAt(0, 0), x.keyAt(0, 1), x.keyAt(2, 0), x.keyAt(2, 1)),
            List.of(key(0), key(4), key(2), key(6)));
        due("shared", List.of(x.keyAt(1, 0), x.keyAt(1, 1), x.keyAt(3, 0), x.keyAt(3, 1)),
            List.of(key(5), key(3), key(5), key(3)));
        TwinHashTables most = with(alike(120));
        due("the last one of 120", List.of(most.keyAt(0, 0), most.keyAt(0, 119)), List.of(key(0), key(256 * 119)));
    }

    private void firstPlace() {
        sentence("- `place`: 0 for the first key");
        TwinHashTables x = with(4, 0, 2);
        due("first, second, last", List.of(x.keyAt(0, 0), x.keyAt(0, 1), x.keyAt(0, 2)), List.of(key(4), key(0), key(2)));
        remove(x, 4);
        due("moved up", List.of(x.keyAt(0, 0), x.keyAt(0, 1)), List.of(key(0), key(2)));
        TwinHashTables one = with(65535);
        due("the only one", one.keyAt(0, 0), key(65535));
    }

    private void keyAtRefuses() {
        sentence("Throws `IndexOutOfBoundsException` if there is no such slot, or its bucket has no such key");
        refusesSlots((x, slot) -> x.keyAt(slot, 0));
        refusesIndexes(TwinHashTables::new, 0, (x, place) -> x.keyAt(0, place));
        refusesIndexes(Cases::few, 3, (x, place) -> x.keyAt(0, place));
        refusesIndexes(Cases::few, 2, (x, place) -> x.keyAt(2, place));
        refusesIndexes(Cases::deep, 5, (x, place) -> x.keyAt(0, place));
        refusesIndexes(Cases::deep, 0, (x, place) -> x.keyAt(128, place));
        refused(INDEX, Cases::few, x -> x.keyAt(-1, -1), x -> x.keyAt(4, 3), x -> x.keyAt(MAX, MAX), x -> x.keyAt(MIN, MIN));
        TwinHashTables x = with(0, 2, 4);
        remove(x, 0);
        thrown("the place of a key that moved up", INDEX, x, y -> y.keyAt(0, 2));
    }

    // ---- Promise 16: slotOf

    private void slotsOfKeys() {
        sentence("Returns the slot of a key, be it in the store or not.");
        TwinHashTables x = new TwinHashTables();
        due("the only slot", List.of(x.slotOf(key(0)), x.slotOf(key(65535))), List.of(0, 0));
        put(x, 0, 2, 4, 6, 3);
        due("two bits", answers(9, hash -> x.slotOf(key(hash))), List.of(0, 1, 2, 3, 0, 1, 2, 3, 0));
        due("higher bits", List.of(x.slotOf(key(65535)), x.slotOf(key(65532))), List.of(3, 0));
        TwinHashTables deep = with(alike(4));
        due("eight bits", List.of(deep.slotOf(key(0)), deep.slotOf(key(255)), deep.slotOf(key(256)), deep.slotOf(key(511)),
            deep.slotOf(key(65535)), deep.slotOf(key(128))), List.of(0, 255, 0, 255, 255, 128));
    }

    private void slotOfTakesKeys() {
        sentence(KEYS);
        due("the only slot", List.of(with().slotOf(0), with().slotOf(65535)), List.of(0, 0));
        TwinHashTables deep = with(alike(4));
        due("25033 ends with 201 of 256", List.of(deep.slotOf(0), deep.slotOf(65535)), List.of(0, 201));
    }

    private void slotOfRefusesKeys() {
        sentence(KEY_OUT_OF_RANGE);
        refusesKeys(TwinHashTables::slotOf);
    }

    // ---- Promise 17: buddyOf

    private void buddies() {
        sentence("Returns the lowest slot of the buddy of the bucket of a slot; -1 if the local depth of the bucket is 0, or that"
            + " of the bucket of these slots is greater.");
        TwinHashTables x = new TwinHashTables();
        due("the depth 0", x.buddyOf(0), -1);
        put(x, 0, 2, 4, 1);
        due("the depth 1", answers(2, x::buddyOf), List.of(1, 0));
        put(x, 6);
        due("that of slot 1 is greater", answers(4, x::buddyOf), List.of(2, -1, 0, -1));
        put(x, 3, 5, 7);
        due("the depth 2", answers(4, x::buddyOf), List.of(2, 3, 0, 1));
        put(x, 8, 12);
        due("the lowest slot of two", answers(8, x::buddyOf), List.of(4, 3, -1, 1, 0, 3, -1, 1));
        TwinHashTables deep = with(alike(4));
        due("the depth 8", List.of(deep.buddyOf(0), deep.buddyOf(128)), List.of(128, 0));
        due("seven buckets beside greater ones", List.of(deep.buddyOf(64), deep.buddyOf(192), deep.buddyOf(1), deep.buddyOf(255)),
            List.of(-1, -1, -1, -1));
        deep.clear();
        due("the depth 0 again", deep.buddyOf(0), -1);
    }

    private void buddyOfRefuses() {
        sentence(NO_SUCH_SLOT);
        refusesSlots(TwinHashTables::buddyOf);
        TwinHashTables x = with(alike(4));
        due("the last one of 256", x.buddyOf(255), -1);
        thrown("256", INDEX, x, y -> y.buddyOf(256));
        remove(x, 0);
        thrown("1, halved", INDEX, x, y -> y.buddyOf(1));
    }

    // ---- Promises 18 and 19: pages

    private void overflow() {
        sentence("Returns how many overflow pages the buckets of the extendible table have, together.");
        TwinHashTables x = new TwinHashTables();
        due("none", x.overflowPages(), 0);
        put(x, 0, 256, 512);
        due("just the capacity", x.overflowPages(), 0);
        put(x, 768);
        due("one key beyond", x.overflowPages(), 1);
        put(x, 1024, 1280);
        due("one page, full", x.overflowPages(), 1);
        put(x, 1536);
        due("two", x.overflowPages(), 2);
        put(x, 1, 257, 513, 769);
        due("three, of two buckets", x.overflowPages(), 3);
        put(x, 128, 384);
        due("a bucket below the capacity makes up for nothing", x.overflowPages(), 3);
        remove(x, 1536);
        due("two again", x.overflowPages(), 2);
        TwinHashTables most = new TwinHashTables();
        most.rebuild(1);
        put(most, alike(120));
        due("119", most.overflowPages(), 119);
        most.rebuild(5);
        due("23", most.overflowPages(), 23);
    }

    private void pagesRead() {
        sentence("Returns how many pages of the extendible table are read to find a key: the bucket counts as one, and each"
            + " overflow page up to that with the key; all of them if the bucket does not have the key.");
        TwinHashTables x = with(alike(7));
        due("the bucket, its pages", answers(7, number -> x.probes(key(256 * number))), List.of(1, 1, 1, 2, 2, 2, 3));
        due("all of them", x.probes(key(1792)), 3);
        remove(x, 1536);
        due("all of them, with a full page", x.probes(key(1792)), 2);
        due("an empty bucket", List.of(x.probes(key(1)), new TwinHashTables().probes(key(1))), List.of(1, 1));
        TwinHashTables one = new TwinHashTables();
        one.rebuild(1);
        put(one, alike(3));
        due("the capacity 1", answers(4, number -> one.probes(key(256 * number))), List.of(1, 2, 3, 3));
        TwinHashTables full = with(0, 2, 4);
        due("a full bucket without overflow", List.of(full.probes(key(4)), full.probes(key(1))), List.of(1, 1));
        remove(x, 0);
        due("moved up to the bucket", List.of(x.probes(key(768)), x.probes(key(1024))), List.of(1, 2));
        TwinHashTables other = with(254, 510, 766, 1022, 0);
        due("another slot", List.of(other.probes(key(766)), other.probes(key(1022)), other.probes(key(1278)), other.probes(key(0))),
            List.of(1, 2, 2, 1));
    }

    private void probesTakesKeys() {
        sentence(KEYS);
        TwinHashTables x = new TwinHashTables();
        due("absent", List.of(x.probes(0), x.probes(65535)), List.of(1, 1));
        put(x, 256, 512, 768);
        x.put(0, 1);
        due("the least, behind three", x.probes(0), 2);
        x.clear();
        put(x, 25033 + 256, 25033 + 512, 25033 + 768);
        x.put(65535, 1);
        due("the greatest, behind three", x.probes(65535), 2);
    }

    private void probesRefusesKeys() {
        sentence(KEY_OUT_OF_RANGE);
        refusesKeys(TwinHashTables::probes);
    }

    // ---- Promises 20 to 23: counts

    private void doublings() {
        sentence("Returns how often the directory has doubled.");
        TwinHashTables x = new TwinHashTables();
        due("none", x.doublings(), 0);
        put(x, 0, 2, 4);
        due("none yet", x.doublings(), 0);
        put(x, 6);
        due("twice by one call", x.doublings(), 2);
        put(x, 1, 3, 5, 7);
        due("a split alone", List.of(x.doublings(), x.splits()), List.of(2, 3));
        remove(x, 7, 6, 5);
        due("halvings take none back", List.of(x.globalDepth(), x.doublings()), List.of(1, 2));
        put(x, 6, 8);
        due("doubled anew", List.of(x.globalDepth(), x.doublings()), List.of(2, 3));
        x.clear();
        due("clearing takes none back", x.doublings(), 3);
        put(x, alike(4));
        due("eight by one call", x.doublings(), 11);
        x.rebuild(1);
        due("eight more by rebuilding", x.doublings(), 19);
    }

    private void halvings() {
        sentence("Returns how often the directory has halved.");
        TwinHashTables x = with(alike(4));
        due("none", List.of(new TwinHashTables().halvings(), x.halvings()), List.of(0, 0));
        put(x, 1, 3, 5, 7);
        remove(x, 7);
        due("a merge alone", List.of(x.halvings(), x.merges()), List.of(0, 1));
        remove(x, 0);
        due("seven by one call", x.halvings(), 7);
        remove(x, 1, 256, 3);
        due("the last one", List.of(x.halvings(), x.globalDepth()), List.of(8, 0));
        remove(x, 5, 512, 768);
        due("none at 0", x.halvings(), 8);
        put(x, alike(4));
        x.clear();
        due("clearing is none", List.of(x.halvings(), x.globalDepth()), List.of(8, 0));
        put(x, alike(4));
        x.rebuild(5);
        due("rebuilding is none", List.of(x.halvings(), x.globalDepth()), List.of(8, 0));
    }

    private void splits() {
        sentence("Returns how often buckets of the extendible table were split.");
        TwinHashTables x = new TwinHashTables();
        due("none", x.splits(), 0);
        put(x, 0, 2, 4);
        due("none yet", x.splits(), 0);
        put(x, 1);
        due("one", x.splits(), 1);
        put(x, 6, 3, 5, 7);
        due("with a doubling, and without", List.of(x.splits(), x.doublings()), List.of(3, 2));
        put(x, 6, 6, 6);
        due("replacing splits nothing", x.splits(), 3);
        remove(x, 7, 6, 5);
        due("merges take none back", List.of(x.merges(), x.splits()), List.of(2, 3));
        x.clear();
        due("clearing takes none back", x.splits(), 3);
        put(x, alike(4));
        due("eight by one call", x.splits(), 11);
        put(x, 1024, 1280);
        due("none at the depth 8", x.splits(), 11);
        x.rebuild(5);
        due("six keys, the capacity 5", x.splits(), 19);
    }

    private void merges() {
        sentence("Returns how often two buckets of the extendible table merged.");
        TwinHashTables x = with(0, 2, 1, 3, 5);
        due("none", List.of(new TwinHashTables().merges(), x.merges()), List.of(0, 0));
        remove(x, 0);
        due("four together", x.merges(), 0);
        remove(x, 2);
        due("three together", x.merges(), 1);
        remove(x, 1, 3, 5);
        due("none at the depth 0", x.merges(), 1);
        put(x, alike(4));
        remove(x, 768);
        due("eight by one call", x.merges(), 9);
        put(x, 768);
        x.clear();
        due("clearing is none", x.merges(), 9);
        put(x, alike(4));
        x.rebuild(5);
        due("rebuilding is none", x.merges(), 9);
        remove(x, 99);
        due("an absent key", x.merges(), 9);
    }

    // ---- Promise 24: slotAt

    private void slotsOfCursors() {
        sentence("Returns the slot at which a cursor stands: the lowest bits of the cursor, as many as the global depth.");
        TwinHashTables x = new TwinHashTables();
        due("no bit", List.of(x.slotAt(0), x.slotAt(1), x.slotAt(255)), List.of(0, 0, 0));
        put(x, 0, 2, 4, 6);
        due("two bits", answers(8, x::slotAt), List.of(0, 1, 2, 3, 0, 1, 2, 3));
        due("two bits of the greatest ones", List.of(x.slotAt(252), x.slotAt(255)), List.of(0, 3));
        TwinHashTables deep = with(alike(4));
        due("eight bits", answers(256, deep::slotAt), answers(256, cursor -> cursor));
    }

    private void slotAtTakesCursors() {
        sentence(CURSORS);
        due("the least and the greatest", List.of(with().slotAt(0), with().slotAt(255)), List.of(0, 0));
        due("of four slots", List.of(few().slotAt(0), few().slotAt(255)), List.of(0, 3));
        due("of 256 slots", List.of(deep().slotAt(0), deep().slotAt(255)), List.of(0, 255));
    }

    private void slotAtRefusesCursors() {
        sentence(CURSOR_OUT_OF_RANGE);
        refusesCursors(TwinHashTables::slotAt);
    }

    // ---- Promise 25: nextCursor

    private void cursorsBehind() {
        sentence("Returns the cursor behind the bucket of a cursor's slot.");
        TwinHashTables x = new TwinHashTables();
        due("one bucket, nothing behind it", x.nextCursor(0), 0);
        put(x, 0, 2, 4, 1);
        due("two", List.of(x.nextCursor(0), x.nextCursor(1)), List.of(1, 0));
        put(x, 6);
        due("three, the last one with two slots", answers(4, x::nextCursor), List.of(2, 0, 1, 0));
        put(x, 3, 5, 7);
        due("four", answers(4, x::nextCursor), List.of(2, 3, 1, 0));
        unchanged("nothing else happens", Cases::few, y -> y.nextCursor(0), y -> y.slotAt(0));
    }

    private void wholeScan() {
        sentence("A scan begins with the cursor 0, takes the keys of the bucket of its slot, goes on with the cursor behind it, and"
            + " ends when that is 0.");
        due("an empty store: one bucket", cursorsOfAScan(new TwinHashTables()), List.of(0));
        due("four slots, three buckets", cursorsOfAScan(with(0, 2, 4, 6)), List.of(0, 2, 1));
        due("256 slots, nine buckets", cursorsOfAScan(with(alike(4))), List.of(0, 128, 64, 32, 16, 8, 4, 2, 1));
        due("one of them parted", cursorsOfAScan(with(0, 2, 4, 6, 1, 3, 5, 8, 12, 7)), List.of(0, 4, 2, 1, 3));
        due("full, each key once", List.of(keysOfAScan(with(upTo(120))).size(),
            new TreeSet<>(keysOfAScan(with(upTo(120)))).size()), List.of(120, 120));
        due("an overfull bucket", keysOfAScan(with(alike(6))), List.of(0, 256, 512, 768, 1024, 1280));
    }

    private static List<Integer> cursorsOfAScan(TwinHashTables x) {
        List<Integer> cursors = new ArrayList<>();
        int cursor = 0;
        do {
            cursors.add(cursor);
            cursor = x.nextCursor(cursor);
        } while (cursor != 0 && cursors.size() < 130);
        return cursors;
    }

    private static List<Integer> keysOfAScan(TwinHashTables x) {
        List<Integer> hashes = new ArrayList<>();
        for (int cursor : cursorsOfAScan(x)) {
            hashes.addAll(bucket(x, x.slotAt(cursor)));
        }
        return hashes;
    }

    private void reversedBits() {
        sentence("With l for the local depth of the bucket: the lowest l bits of the cursor (higher ones do not matter) are read in"
            + " reverse, bit 0 being the highest one; 1 is added; if that is 2 to the power of l, the result is 0, otherwise its l"
            + " bits in reverse again.");
        TwinHashTables none = new TwinHashTables();
        due("l = 0: 1 is 2 to the power of 0", List.of(none.nextCursor(0), none.nextCursor(7), none.nextCursor(255)),
            List.of(0, 0, 0));
        TwinHashTables x = with(0, 2, 4, 6);
        due("l = 2, higher bits do not matter", List.of(x.nextCursor(0), x.nextCursor(4), x.nextCursor(252), x.nextCursor(2),
            x.nextCursor(254)), List.of(2, 2, 2, 1, 1));
        due("l = 1 of the global depth 2, all bits 1: 0", List.of(x.nextCursor(1), x.nextCursor(3), x.nextCursor(253),
            x.nextCursor(255)), List.of(0, 0, 0, 0));
        TwinHashTables deep = with(alike(4));
        due("l = 8: added to the highest bit", List.of(deep.nextCursor(0), deep.nextCursor(128)), List.of(128, 64));
        due("l = 7 to 1", List.of(deep.nextCursor(64), deep.nextCursor(192), deep.nextCursor(32), deep.nextCursor(2),
            deep.nextCursor(1), deep.nextCursor(129)), List.of(32, 32, 16, 1, 0, 0));
        TwinHashTables other = with(255, 511, 767, 1023);
        due("l = 8, all bits 1: 0", List.of(other.nextCursor(255), other.nextCursor(127)), List.of(0, 255));
        TwinHashTables three = with(0, 2, 4, 6, 1, 3, 5, 7, 8, 12);
        due("l = 3 and 2", answers(8, three::nextCursor), List.of(4, 3, 1, 0, 2, 3, 1, 0));
    }

    private void nextCursorTakesCursors() {
        sentence(CURSORS);
        due("the least and the greatest", List.of(with().nextCursor(0), with().nextCursor(255)), List.of(0, 0));
        due("of four slots", List.of(few().nextCursor(0), few().nextCursor(255)), List.of(2, 0));
        due("of 256 slots", List.of(deep().nextCursor(0), deep().nextCursor(255)), List.of(128, 0));
    }

    private void nextCursorRefusesCursors() {
        sentence(CURSOR_OUT_OF_RANGE);
        refusesCursors(TwinHashTables::nextCursor);
    }
}
