import java.io.IOException;

/** For each sentence of the document a test of its own, which says where it stands: its edges and wrong inputs. */
public final class EdgesTest {
    private EdgesTest() {}

    public static void main(String[] args) throws IOException {
        Edges.open();
        calls();
        TextEdges.test();
        EventEdges.test();
        TermEdges.test();
        TapeEdges.test();
        TreeEdges.test();
        HandleEdges.test();
        ShapeEdges.test();
        PageEdges.test();
        LeftOutEdges.test();
        GameEdges.test();
        ActEdges.test();
        RowEdges.test();
        Edges.close();
    }

    private static void calls() {
        Edges.says("0", "An object is used for at most 512 calls after it has been made; what later calls answer is free.");
        FrozenTrees x = new FrozenTrees();
        for (int i = 0; i < 100; i++) {
            x.feed(0x73797374, 0x656D206C, 0x61772033, 0x206F6464, 0x7320373B);
            x.system();
            x.does(0, 1, 2 + i % 14, 0);
            x.image(i % 3);
            x.row(i % 4, i % 4, i % 61);
        }
        for (int i = 500; i < 512; i++) {
            Edges.due("call " + (i + 1), x.alive(1), 1 + (1 << 1 + 99 % 14));
        }
    }
}
