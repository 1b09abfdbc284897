import java.nio.file.Path;

/** Every test of the project; its arguments are the paths of EightWires.java and of DOC.md. */
public final class AllTests {
    private AllTests() {
    }

    public static void main(String[] args) throws Exception {
        TextTest.all();
        SamplesTest.all();
        RunTest.all();
        PulsesTest.all();
        LinesTest.all();
        EyesTest.all();
        ImagesTest.all();
        SheetsTest.all();
        AnswerBounds.all();
        TextBounds.all();
        TraceBounds.all();
        PulseBounds.all();
        ByteBounds.all();
        ImageBounds.all();
        GridTest.all();
        ModelTest.all();
        Sentences.all(Path.of(args.length > 1 ? args[1] : "../shared/DOC.md"));
        FormTest.all(args.length > 0 ? args[0] : "src/main/java/EightWires.java");
        if (!Check.finish()) {
            System.exit(1);
        }
    }
}
