/** Each sentence of "What it is", "Terms" and the promises, at its edges, by a test that names it. */
public final class EdgesTest {
    public static void main(String[] args) {
        WritingEdges.run();
        MachineEdges.run();
        TextEdges.run();
        DoneEdges.run();
        WouldEdges.run();
        SeenEdges.run();
        AllEdges.run();
        Sentences.checkAllNamed();
        Due.end("EdgesTest");
    }
}
