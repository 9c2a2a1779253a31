/** Runs every test of the project; its one argument is the path of LarderPatrol.java. */
public final class AllTests {
    private AllTests() {
    }

    public static void main(String[] args) {
        ShelfPromises.run();
        PatrolPromises.run();
        MinutePromises.run();
        AccountPromises.run();
        TextPromises.run();
        DenialPromises.run();
        UndoPromises.run();
        FaceCheck.run();
        SourceCheck.run(args.length == 1 ? args[0] : "src/main/java/LarderPatrol.java");
        ModelRuns.run();
        System.out.println(Checks.passed() + " passed, " + Checks.failed() + " failed");
        if (Checks.failed() != 0) {
            System.exit(1);
        }
    }
}
