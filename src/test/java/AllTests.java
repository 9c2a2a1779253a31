/** Runs every test of the project; its arguments are the paths of LarderPatrol.java, of the document and of the README. */
public final class AllTests {
    private AllTests() {
    }

    public static void main(String[] args) {
        ShelfPromises.run();
        PatrolPromises.run();
        MinutePromises.run();
        AccountPromises.run();
        TextPromises.run();
        DenialPromises.run();
        UndoPromises.run();
        runBoundaries();
        String source = args.length > 0 ? args[0] : "src/main/java/LarderPatrol.java";
        DocumentCheck.run(args.length > 1 ? args[1] : "../shared/DOC.md", source);
        FaceCheck.run();
        SourceCheck.run(source);
        ReadmeCheck.run(args.length > 2 ? args[2] : "README.md");
        ModelRuns.run();
        System.out.println(Checks.passed() + " passed, " + Checks.failed() + " failed");
        if (Checks.failed() != 0) {
            System.exit(1);
        }
    }

    private static void runBoundaries() {
        TermBoundaries.run();
        StepBoundaries.run();
        ShelfBoundaries.run();
        PatrolBoundaries.run();
        MinuteBoundaries.run();
        AccountBoundaries.run();
        TextBoundaries.run();
        DenialBoundaries.run();
        UndoBoundaries.run();
    }
}
