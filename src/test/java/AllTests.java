/** All of the project's own tests; told the path of FarVoice.java. */
public final class AllTests {
    private AllTests() {
    }

    public static void main(String[] args) {
        LanguageTests.source = args.length == 0 ? "src/main/java/FarVoice.java" : args[0];
        Check.runAll(StageTests.class);
        Check.runAll(VoiceTests.class);
        Check.runAll(ActTests.class);
        Check.runAll(StageEdgeTests.class);
        Check.runAll(HouseEdgeTests.class);
        Check.runAll(VoiceEdgeTests.class);
        Check.runAll(HousefulEdgeTests.class);
        Check.runAll(TapeEdgeTests.class);
        Check.runAll(RefusalTests.class);
        Check.runAll(ModelTests.class);
        Check.runAll(LanguageTests.class);
        Check.runAll(ReadmeTests.class);
        System.exit(Check.allPassed() ? 0 : 1);
    }
}
