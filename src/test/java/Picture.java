import java.util.ArrayList;
import java.util.List;
import java.util.TreeSet;
import java.util.function.Supplier;
import java.util.function.ToIntFunction;

/**
 * All that an object answers. The questions are shared out among objects made alike, so that none of
 * them gets more calls than the document allows. Making one may take up to 200 calls.
 */
final class Picture {
    private static final int QUESTIONS = 250;
    private static final int[] SOME_KEYS = {0, 1, 2, 7, 100, 255, 256, 32768, 65534, 65535};

    private final Supplier<TwinHashTables> maker;
    private final List<Integer> answers = new ArrayList<>();
    private TwinHashTables x;
    private int asked = 0;

    private Picture(Supplier<TwinHashTables> maker) {
        this.maker = maker;
        this.x = maker.get();
    }

    static List<Integer> of(Supplier<TwinHashTables> maker) {
        Picture picture = new Picture(maker);
        picture.askSizes();
        picture.askSlots();
        TreeSet<Integer> keys = picture.askLinearBuckets();
        picture.askKeys(keys);
        picture.askCursors();
        picture.askLoads(keys);
        return picture.answers;
    }

    private int ask(ToIntFunction<TwinHashTables> question) {
        if (asked == QUESTIONS) {
            asked = 0;
            x = maker.get();
        }
        asked++;
        int answer = question.applyAsInt(x);
        answers.add(answer);
        return answer;
    }

    private void askSizes() {
        List<ToIntFunction<TwinHashTables>> sizes = List.of(TwinHashTables::size, TwinHashTables::buckets,
            TwinHashTables::overflowPages, TwinHashTables::doublings, TwinHashTables::halvings, TwinHashTables::splits,
            TwinHashTables::merges, TwinHashTables::level, TwinHashTables::pointer, TwinHashTables::linearOverflowPages,
            TwinHashTables::load, TwinHashTables::linearSplits);
        sizes.forEach(this::ask);
    }

    private void askSlots() {
        int slots = 1 << ask(TwinHashTables::globalDepth);
        for (int number = 0; number < slots; number++) {
            int slot = number;
            ask(x -> x.localDepth(slot));
            ask(x -> x.buddyOf(slot));
            int size = ask(x -> x.bucketSize(slot));
            for (int at = 0; at < size; at++) {
                int place = at;
                ask(x -> x.keyAt(slot, place));
            }
        }
    }

    private TreeSet<Integer> askLinearBuckets() {
        TreeSet<Integer> keys = new TreeSet<>();
        int buckets = ask(TwinHashTables::linearBuckets);
        for (int number = 0; number < buckets; number++) {
            int bucket = number;
            int size = ask(x -> x.linearSize(bucket));
            for (int at = 0; at < size; at++) {
                int place = at;
                keys.add(ask(x -> x.linearKeyAt(bucket, place)));
            }
        }
        return keys;
    }

    private void askKeys(TreeSet<Integer> keys) {
        List<Integer> all = new ArrayList<>(keys);
        for (int key : SOME_KEYS) {
            all.add(key);
        }
        for (int key : all) {
            ask(x -> x.get(key));
            ask(x -> x.getByLinear(key));
            ask(x -> x.hashOf(key));
            ask(x -> x.slotOf(key));
            ask(x -> x.probes(key));
            ask(x -> x.linearBucketOf(key));
            ask(x -> x.linearProbes(key));
        }
    }

    private void askCursors() {
        for (int number = 0; number < 256; number++) {
            int cursor = number;
            ask(x -> x.slotAt(cursor));
            ask(x -> x.nextCursor(cursor));
        }
    }

    // The capacity and the high load are told by calls that change them, the low load by what removing does.
    private void askLoads(TreeSet<Integer> keys) {
        asked = QUESTIONS;
        for (int key : keys) {
            ask(x -> x.remove(key));
            ask(TwinHashTables::linearBuckets);
        }
        ask(x -> x.rebuild(3));
        ask(x -> x.setLoads(0, 50));
    }
}
