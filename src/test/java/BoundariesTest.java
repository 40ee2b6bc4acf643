import java.io.IOException;
import java.nio.file.Path;

/** Each sentence of the document has a test of its own, at the boundaries that the sentence names. */
public final class BoundariesTest {
    public static void main(String[] args) throws IOException {
        Ledger ledger = new Ledger(Path.of("../shared/DOC.md"));
        ledger.section("TwinHashTables");
        ledger.section("Not promised");
        ledger.leaveOut("");
        new TermsCases(ledger).check();
        new FaceCases(ledger).check();
        new StoreCases(ledger).check();
        new ExtendibleCases(ledger).check();
        new LinearCases(ledger).check();
        ledger.end("BoundariesTest");
    }
}
