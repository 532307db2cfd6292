/** Runs all tests of the project. The arguments are the paths of the program's source, the document and README.md. */
public final class AllTests {
    public static void main(String[] args) throws Exception {
        Checks checks = new Checks();
        new SetUpTest(checks).run();
        new DaysTest(checks).run();
        new WhatIfTest(checks).run();
        new TextTest(checks).run();
        new StateTest(checks).run();
        new RandomRunsTest(checks).run();
        new EdgesTest(checks, args[1]).run();
        new FaceTest(checks, args[0]).run();
        new ShapeTest(checks, args[0]).run();
        new ReadmeTest(checks, args[2], args[1]).run();
        System.out.println(checks.passed() + " checks hold, " + checks.failed() + " do not");
        if (checks.failed() > 0 || checks.passed() == 0) {
            System.exit(1);
        }
    }
}
