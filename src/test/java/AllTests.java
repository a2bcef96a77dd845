/** Runs every test of the project; ends with exit code 1 if one fails. */
public final class AllTests {
    private AllTests() {
    }

    public static void main(String[] args) {
        FaceTests.run();
        DocumentTests.run();
        LogTests.run();
        RecoveryTests.run();
        SearchTests.run();
        InfoTests.run();
        TermSentences.run();
        WriteSentences.run();
        LogSentences.run();
        RecoverySentences.run();
        SearchSentences.run();
        UseTests.run();
        ModelTests.run();
        Sentence.compareWithDocument();
        System.out.println(Check.passed + " passed, " + Check.failed + " failed");
        if (Check.failed != 0) {
            System.exit(1);
        }
    }
}
