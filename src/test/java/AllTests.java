import java.io.IOException;

/** Runs every test of the project; the exit code is 1 if an answer was not the one that is due. */
public final class AllTests {
    private AllTests() {
    }

    public static void main(String[] args) throws IOException {
        TextTest.run();
        ViewTest.run();
        WouldBeTest.run();
        ChangeTest.run();
        UndoTest.run();
        BufferEdgeTest.run();
        TextEdgeTest.run();
        ViewEdgeTest.run();
        WouldBeEdgeTest.run();
        ChangeEdgeTest.run();
        UndoEdgeTest.run();
        RefusalTest.run();
        FullTest.run();
        TogetherTest.run();
        FaceTest.run();
        ModelTest.run();
        System.out.println(Check.right() + " passed, " + Check.wrong() + " failed");
        if (Check.wrong() != 0) {
            System.exit(1);
        }
    }
}
