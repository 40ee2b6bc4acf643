import java.util.ArrayList;
import java.util.Arrays;
import java.util.List;
import java.util.function.IntUnaryOperator;
import java.util.function.Supplier;

/**
 * What the cases of all sections share. Keys are told by their hashes here, as the bits of a hash alone
 * decide where a key goes; the value of a key is its hash.
 */
abstract class Cases {
    interface Call {
        int on(TwinHashTables x);
    }

    interface CallWithNumber {
        int on(TwinHashTables x, int number);
    }

    static final int MIN = Integer.MIN_VALUE;
    static final int MAX = Integer.MAX_VALUE;
    static final Class<IllegalArgumentException> ARGUMENT = IllegalArgumentException.class;
    static final Class<IllegalStateException> STATE = IllegalStateException.class;
    static final Class<IndexOutOfBoundsException> INDEX = IndexOutOfBoundsException.class;

    // 40503 * 30599 is 1 modulo 65536.
    private static final int INVERSE = 30599;

    private final Ledger ledger;

    Cases(Ledger ledger) {
        this.ledger = ledger;
    }

    /** Makes the checks of all sentences of these sections. */
    abstract void check();

    // ---- sentences and checks

    void section(String heading) {
        ledger.section(heading);
    }

    /** An exception that is not due fails this test, and the others go on. */
    void test(Runnable test) {
        try {
            test.run();
        } catch (RuntimeException e) {
            due("ends without an exception", e.toString(), "no exception");
        }
    }

    void sentence(String words) {
        ledger.sentence(words);
    }

    void leaveOut(String beginning) {
        ledger.leaveOut(beginning);
    }

    void due(String what, Object got, Object want) {
        ledger.due(what, got, want);
    }

    /** Each of the calls throws just this exception, and all that the object answers stays as it was. */
    void refused(Class<? extends RuntimeException> want, Supplier<TwinHashTables> maker, Call... calls) {
        TwinHashTables x = maker.get();
        for (int number = 0; number < calls.length; number++) {
            Call call = calls[number];
            due("wrong call " + number, Checks.outcome(() -> call.on(x)), want.getSimpleName());
        }
        unchanged("refused calls change nothing", maker, calls);
    }

    void unchanged(String what, Supplier<TwinHashTables> maker, Call... calls) {
        List<Integer> after = Picture.of(() -> {
            TwinHashTables x = maker.get();
            for (Call call : calls) {
                Checks.outcome(() -> call.on(x));
            }
            return x;
        });
        due(what, after.equals(Picture.of(maker)), true);
    }

    void thrown(String what, Class<? extends RuntimeException> want, TwinHashTables x, Call call) {
        due(what, Checks.outcome(() -> call.on(x)), want.getSimpleName());
    }

    /** Just beyond the keys, far beyond them, and numbers whose lowest 16 bits are a key of the store. */
    void refusesKeys(CallWithNumber call) {
        for (Supplier<TwinHashTables> state : states()) {
            refused(ARGUMENT, state, x -> call.on(x, -1), x -> call.on(x, 65536), x -> call.on(x, MIN), x -> call.on(x, MAX),
                x -> call.on(x, key(2) + 65536), x -> call.on(x, key(2) - 65536), x -> call.on(x, -key(2)));
        }
    }

    void refusesCursors(CallWithNumber call) {
        for (Supplier<TwinHashTables> state : states()) {
            refused(ARGUMENT, state, x -> call.on(x, -1), x -> call.on(x, 256), x -> call.on(x, 257), x -> call.on(x, -256),
                x -> call.on(x, MIN), x -> call.on(x, MAX));
        }
    }

    /** Just beyond the slots, and far beyond them. */
    void refusesSlots(CallWithNumber call) {
        for (Supplier<TwinHashTables> state : states()) {
            refusesIndexes(state, 1 << state.get().globalDepth(), call);
        }
    }

    void refusesLinearBuckets(CallWithNumber call) {
        for (Supplier<TwinHashTables> state : states()) {
            refusesIndexes(state, state.get().linearBuckets(), call);
        }
    }

    void refusesIndexes(Supplier<TwinHashTables> state, int count, CallWithNumber call) {
        refused(INDEX, state, x -> call.on(x, -1), x -> call.on(x, count), x -> call.on(x, count + 1),
            x -> call.on(x, 256), x -> call.on(x, -256), x -> call.on(x, MIN), x -> call.on(x, MAX));
    }

    // ---- keys by their hashes

    static int key(int hash) {
        return hash * INVERSE & 65535;
    }

    static TwinHashTables with(int... hashes) {
        TwinHashTables x = new TwinHashTables();
        put(x, hashes);
        return x;
    }

    static void put(TwinHashTables x, int... hashes) {
        for (int hash : hashes) {
            x.put(key(hash), hash);
        }
    }

    static void remove(TwinHashTables x, int... hashes) {
        for (int hash : hashes) {
            x.remove(key(hash));
        }
    }

    /** The hashes 0, 1, 2, .. */
    static int[] upTo(int count) {
        return hashes(count, number -> number);
    }

    /** Hashes whose lowest eight bits are 0, so that no table ever parts them. */
    static int[] alike(int count) {
        return hashes(count, number -> 256 * number);
    }

    static int[] hashes(int count, IntUnaryOperator hashOfNumber) {
        int[] hashes = new int[count];
        Arrays.setAll(hashes, hashOfNumber);
        return hashes;
    }

    // ---- what an object answers, as lists

    private static int hash(int key) {
        return (int) (key * 40503L % 65536);
    }

    /** The hashes of the keys of a slot's bucket. */
    static List<Integer> bucket(TwinHashTables x, int slot) {
        List<Integer> hashes = new ArrayList<>();
        int size = x.bucketSize(slot);
        for (int place = 0; place < size; place++) {
            hashes.add(hash(x.keyAt(slot, place)));
        }
        return hashes;
    }

    /** The hashes of the keys of a bucket of the linear table. */
    static List<Integer> linear(TwinHashTables x, int bucket) {
        List<Integer> hashes = new ArrayList<>();
        int size = x.linearSize(bucket);
        for (int place = 0; place < size; place++) {
            hashes.add(hash(x.linearKeyAt(bucket, place)));
        }
        return hashes;
    }

    static List<Integer> depths(TwinHashTables x) {
        return answers(1 << x.globalDepth(), x::localDepth);
    }

    /** The answers for 0, 1, 2, .. */
    static List<Integer> answers(int count, IntUnaryOperator call) {
        List<Integer> answers = new ArrayList<>();
        for (int number = 0; number < count; number++) {
            answers.add(call.applyAsInt(number));
        }
        return answers;
    }

    static List<Integer> counts(TwinHashTables x) {
        return List.of(x.doublings(), x.halvings(), x.splits(), x.merges(), x.linearSplits());
    }

    static List<Integer> linearShape(TwinHashTables x) {
        return List.of(x.linearBuckets(), x.level(), x.pointer());
    }

    // ---- objects in several states

    /** No key, a few keys, buckets of the greatest depth, and 120 keys. */
    static List<Supplier<TwinHashTables>> states() {
        return List.of(TwinHashTables::new, Cases::few, Cases::deep, Cases::full);
    }

    /** Buckets of the depths 2, 1 and 2, and five linear ones, of which the next removal takes some back. */
    static TwinHashTables few() {
        TwinHashTables x = new TwinHashTables();
        x.setLoads(0, 50);
        put(x, 0, 2, 4, 1, 6, 3, 8);
        x.setLoads(50, 100);
        return x;
    }

    /** A bucket with five keys at the depth 8, with nothing in its buddy. */
    static TwinHashTables deep() {
        TwinHashTables x = with(alike(5));
        put(x, 2, 1, 3, 5);
        return x;
    }

    static TwinHashTables full() {
        TwinHashTables x = new TwinHashTables();
        x.rebuild(2);
        put(x, upTo(120));
        return x;
    }
}
