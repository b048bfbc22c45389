import java.nio.file.Files;
import java.nio.file.Path;

/** What README.md says of .ci/run, tried on small projects: when it passes, and that it runs all. */
public final class CiRunTest {
    private static final String PASSES = SmallProject.PASSES;
    private static final String FAILS = SmallProject.FAILS;
    private static final String IS_NO_JAVA = SmallProject.IS_NO_JAVA;

    public static void main(String[] args) throws Exception {
        Due.holds(".ci/run can be executed", Files.isExecutable(Path.of(".ci/run")));

        new SmallProject("all pass")
                .own("AllTest", PASSES).own("BestTest", "Helper.main(args);").own("Helper", PASSES)
                .shared("Early", PASSES).shared("Late", PASSES)
                .run().passes().ran("AllTest", "BestTest", "Helper", "Early", "Late").clear();

        new SmallProject("one of each fails")
                .own("AllTest", FAILS).own("BestTest", PASSES)
                .shared("Early", FAILS).shared("Late", PASSES)
                .run().fails().ran("AllTest", "BestTest", "Early", "Late").clear();
        new SmallProject("the project's alone fails")
                .own("AllTest", FAILS).shared("Early", PASSES)
                .run().fails().ran("AllTest", "Early").clear();
        new SmallProject("the shared alone fails")
                .own("AllTest", PASSES).shared("Early", FAILS)
                .run().fails().ran("AllTest", "Early").clear();

        new SmallProject("the project's does not compile")
                .own("AllTest", IS_NO_JAVA).shared("Early", PASSES)
                .run().fails().ran("Early").clear();
        new SmallProject("the shared does not compile")
                .own("AllTest", PASSES).shared("Early", IS_NO_JAVA)
                .run().fails().ran("AllTest").clear();
        new SmallProject("the class does not compile")
                .breakTheClass().own("AllTest", PASSES).shared("Early", PASSES)
                .run().fails().ran().clear();

        new SmallProject("none of the project's")
                .own("Helper", PASSES).shared("Early", PASSES)
                .run().fails().ran("Early").clear();
        new SmallProject("none of the shared")
                .own("AllTest", PASSES)
                .run().fails().ran("AllTest").clear();
        Due.end();
    }
}
