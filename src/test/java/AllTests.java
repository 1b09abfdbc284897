import java.nio.file.Path;

/** Every test of the project; its arguments are the paths of EightWires.java, DOC.md and README.md. */
public final class AllTests {
    private AllTests() {
    }

    public static void main(String[] args) throws Exception {
        TextTest.all();
        SamplesTest.all();
        RunTest.all();
        PulsesTest.all();
        LinesTest.all();
        EyesTest.all();
        ImagesTest.all();
        SheetsTest.all();
        AnswerBounds.all();
        TextBounds.all();
        TraceBounds.all();
        PulseBounds.all();
        ByteBounds.all();
        ImageBounds.all();
        GridTest.all();
        SweepTest.all();
        ModelTest.all();
        Path document = Path.of(args.length > 1 ? args[1] : "../shared/DOC.md");
        Sentences.all(document);
        FormTest.all(Path.of(args.length > 0 ? args[0] : "src/main/java/EightWires.java"), document);
        ReadmeTest.all(Path.of(args.length > 2 ? args[2] : "README.md"));
        if (!Check.finish()) {
            System.exit(1);
        }
    }
}
