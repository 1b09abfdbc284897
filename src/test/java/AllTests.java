/** Every test of the project; its argument is the path of EightWires.java. */
public final class AllTests {
    private AllTests() {
    }

    public static void main(String[] args) throws Exception {
        TextTest.all();
        SamplesTest.all();
        RunTest.all();
        PulsesTest.all();
        LinesTest.all();
        EyesTest.all();
        ImagesTest.all();
        SheetsTest.all();
        ModelTest.all();
        FormTest.all(args.length > 0 ? args[0] : "src/main/java/EightWires.java");
        if (!Check.finish()) {
            System.exit(1);
        }
    }
}
