/** Runs every test of the project. */
public final class AllTests {
    private AllTests() {
    }

    public static void main(String[] args) throws Exception {
        endInTenMinutes();
        FaceTest.run();
        LanguageTest.run();
        ReadmeTest.run();
        RecipeTest.run();
        TaskTest.run();
        AnswerTest.run();
        LeanTest.run();
        FinderTest.run();
        ClaimTest.run();
        HostTest.run();
        edges();
        ExtremesTest.run();
        RandomRunsTest.run();
        System.out.println(Check.passed + " passed, " + Check.failed + " failed");
        if (Check.failed != 0) {
            System.exit(1);
        }
    }

    /** A call that never ends would otherwise never be told. */
    private static void endInTenMinutes() {
        Thread guard = new Thread(() -> {
            try {
                Thread.sleep(600_000);
            } catch (InterruptedException e) {
                return;
            }
            System.out.println("the tests did not end");
            Runtime.getRuntime().halt(1);
        });
        guard.setDaemon(true);
        guard.start();
    }

    /** For each sentence of the document that names an edge, a test of its own. */
    private static void edges() throws Exception {
        Doc.read();
        TaskEdges.run();
        RecipeEdges.run();
        MadeEdges.run();
        AnswerEdges.run();
        LeanEdges.run();
        FinderEdges.run();
        ClaimEdges.run();
        HostEdges.run();
        RefusalEdges.run();
        Doc.allIsCited();
    }
}
