/** Runs every test of the project. */
public final class AllTests {
    private AllTests() {
    }

    public static void main(String[] args) throws Exception {
        FaceTest.run();
        LanguageTest.run();
        RecipeTest.run();
        TaskTest.run();
        AnswerTest.run();
        LeanTest.run();
        FinderTest.run();
        ClaimTest.run();
        HostTest.run();
        RandomRunsTest.run();
        System.out.println(Check.passed + " passed, " + Check.failed + " failed");
        if (Check.failed != 0) {
            System.exit(1);
        }
    }
}
