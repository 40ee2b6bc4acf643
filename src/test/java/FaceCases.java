import java.util.ArrayList;
import java.util.List;
import java.util.function.Supplier;

/** The lines of "The public face": what each throws clause lets a call throw, and that others throw nothing. */
final class FaceCases extends Cases {
    private static final String ARGUMENT_CLAUSE = " throws IllegalArgumentException;";
    private static final String INDEX_CLAUSE = " throws IndexOutOfBoundsException;";

    FaceCases(Ledger ledger) {
        super(ledger);
    }

    @Override
    void check() {
        section("The public face");
        leaveOut("public final class TwinHashTables {");
        leaveOut("}");
        test(this::makingThrowsNothing);
        test(this::putThrows);
        callsWithAKey();
        test(this::rebuildThrows);
        test(this::setLoadsThrows);
        withACursor("slotAt", TwinHashTables::slotAt);
        withACursor("nextCursor", TwinHashTables::nextCursor);
        withASlot("localDepth", TwinHashTables::localDepth);
        withASlot("bucketSize", TwinHashTables::bucketSize);
        withASlot("buddyOf", TwinHashTables::buddyOf);
        test(this::linearSizeThrows);
        test(this::keyAtThrows);
        test(this::linearKeyAtThrows);
        callsWithoutAClause();
    }

    private void makingThrowsNothing() {
        sentence("public TwinHashTables();");
        due("an answer", Checks.outcome(() -> new TwinHashTables().size()), "answer 0");
        TwinHashTables full = full();
        due("beside another object", Checks.outcome(() -> new TwinHashTables().size()), "answer 0");
        due("that other one", full.size(), 120);
    }

    private void putThrows() {
        sentence("public int put(int key, int value) throws IllegalArgumentException, IllegalStateException;");
        refusesKeys((x, key) -> x.put(key, 999999));
        for (Supplier<TwinHashTables> state : states()) {
            refused(ARGUMENT, state, x -> x.put(key(2), -1), x -> x.put(key(2), 1000000), x -> x.put(key(300), -1),
                x -> x.put(key(300), 1000000), x -> x.put(-1, -1), x -> x.put(65536, 1000000));
        }
        refused(STATE, Cases::full, x -> x.put(key(300), 0), x -> x.put(key(300), 999999));
        throwsNothing(x -> x.put(key(0), 0), x -> x.put(key(0), 999999), x -> x.size() == 120 ? 0 : x.put(65535, 1));
    }

    private void callsWithAKey() {
        withAKey("remove", TwinHashTables::remove);
        withAKey("get", TwinHashTables::get);
        withAKey("getByLinear", TwinHashTables::getByLinear);
        withAKey("hashOf", TwinHashTables::hashOf);
        withAKey("slotOf", TwinHashTables::slotOf);
        withAKey("probes", TwinHashTables::probes);
        withAKey("linearBucketOf", TwinHashTables::linearBucketOf);
        withAKey("linearProbes", TwinHashTables::linearProbes);
    }

    private void withAKey(String name, CallWithNumber call) {
        test(() -> {
            sentence("public int " + name + "(int key)" + ARGUMENT_CLAUSE);
            refusesKeys(call);
            throwsNothing(x -> call.on(x, 0), x -> call.on(x, 65535), x -> call.on(x, key(2)), x -> call.on(x, key(2)),
                x -> call.on(x, key(300)));
        });
    }

    private void rebuildThrows() {
        sentence("public int rebuild(int capacity)" + ARGUMENT_CLAUSE);
        for (Supplier<TwinHashTables> state : states()) {
            refused(ARGUMENT, state, x -> x.rebuild(0), x -> x.rebuild(6), x -> x.rebuild(MIN), x -> x.rebuild(MAX));
        }
        throwsNothing(x -> x.rebuild(1), x -> x.rebuild(2), x -> x.rebuild(3), x -> x.rebuild(4), x -> x.rebuild(5));
    }

    private void setLoadsThrows() {
        sentence("public int setLoads(int low, int high)" + ARGUMENT_CLAUSE);
        for (Supplier<TwinHashTables> state : states()) {
            refused(ARGUMENT, state, x -> x.setLoads(-1, 200), x -> x.setLoads(51, 200), x -> x.setLoads(26, 50),
                x -> x.setLoads(50, 99), x -> x.setLoads(0, 49), x -> x.setLoads(0, 201), x -> x.setLoads(MIN, MIN),
                x -> x.setLoads(MAX, MAX));
        }
        throwsNothing(x -> x.setLoads(0, 50), x -> x.setLoads(25, 50), x -> x.setLoads(25, 51), x -> x.setLoads(50, 100),
            x -> x.setLoads(50, 200), x -> x.setLoads(0, 200));
    }

    private void withACursor(String name, CallWithNumber call) {
        test(() -> {
            sentence("public int " + name + "(int cursor)" + ARGUMENT_CLAUSE);
            refusesCursors(call);
            throwsNothing(x -> call.on(x, 0), x -> call.on(x, 1), x -> call.on(x, 127), x -> call.on(x, 128),
                x -> call.on(x, 255));
        });
    }

    private void withASlot(String name, CallWithNumber call) {
        test(() -> {
            sentence("public int " + name + "(int slot)" + INDEX_CLAUSE);
            refusesSlots(call);
            throwsNothing(x -> call.on(x, 0), x -> call.on(x, (1 << x.globalDepth()) - 1));
        });
    }

    private void linearSizeThrows() {
        sentence("public int linearSize(int bucket)" + INDEX_CLAUSE);
        refusesLinearBuckets(TwinHashTables::linearSize);
        throwsNothing(x -> x.linearSize(0), x -> x.linearSize(x.linearBuckets() - 1));
    }

    private void keyAtThrows() {
        sentence("public int keyAt(int slot, int place)" + INDEX_CLAUSE);
        refusesSlots((x, slot) -> x.keyAt(slot, 0));
        for (Supplier<TwinHashTables> state : states()) {
            refusesIndexes(state, state.get().bucketSize(0), (x, place) -> x.keyAt(0, place));
        }
        throwsNothing(x -> x.size() == 0 ? 0 : x.keyAt(0, 0), x -> x.size() == 0 ? 0 : x.keyAt(0, x.bucketSize(0) - 1));
    }

    private void linearKeyAtThrows() {
        sentence("public int linearKeyAt(int bucket, int place)" + INDEX_CLAUSE);
        refusesLinearBuckets((x, bucket) -> x.linearKeyAt(bucket, 0));
        for (Supplier<TwinHashTables> state : states()) {
            refusesIndexes(state, state.get().linearSize(0), (x, place) -> x.linearKeyAt(0, place));
        }
        throwsNothing(x -> x.size() == 0 ? 0 : x.linearKeyAt(0, 0),
            x -> x.size() == 0 ? 0 : x.linearKeyAt(0, x.linearSize(0) - 1));
    }

    private void callsWithoutAClause() {
        withoutAClause("size", TwinHashTables::size);
        withoutAClause("clear", TwinHashTables::clear);
        withoutAClause("globalDepth", TwinHashTables::globalDepth);
        withoutAClause("buckets", TwinHashTables::buckets);
        withoutAClause("overflowPages", TwinHashTables::overflowPages);
        withoutAClause("doublings", TwinHashTables::doublings);
        withoutAClause("halvings", TwinHashTables::halvings);
        withoutAClause("splits", TwinHashTables::splits);
        withoutAClause("merges", TwinHashTables::merges);
        withoutAClause("linearBuckets", TwinHashTables::linearBuckets);
        withoutAClause("level", TwinHashTables::level);
        withoutAClause("pointer", TwinHashTables::pointer);
        withoutAClause("linearOverflowPages", TwinHashTables::linearOverflowPages);
        withoutAClause("load", TwinHashTables::load);
        withoutAClause("linearSplits", TwinHashTables::linearSplits);
    }

    private void withoutAClause(String name, Call call) {
        test(() -> {
            sentence("public int " + name + "();");
            throwsNothing(call, call);
        });
    }

    private void throwsNothing(Call... calls) {
        for (Supplier<TwinHashTables> state : states()) {
            TwinHashTables x = state.get();
            List<String> thrown = new ArrayList<>();
            for (Call call : calls) {
                String outcome = Checks.outcome(() -> call.on(x));
                if (!outcome.startsWith("answer")) {
                    thrown.add(outcome);
                }
            }
            due("throws nothing", thrown, List.of());
        }
    }
}
