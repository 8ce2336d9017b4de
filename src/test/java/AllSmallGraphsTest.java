/** Every graph of up to five vertices, in one colour and in some, compared with trying out all. */
final class AllSmallGraphsTest {
    private static final Check CHECK = new Check("AllSmallGraphsTest");
    private static final int[][] COLOURINGS = {{0, 0, 0, 0, 0}, {3, 0, 3, 0, 0}, {0, 7, 1, 1, 0}};

    public static void main(String[] args) {
        for (int size = 1; size <= 5; size++) {
            int pairs = size * (size - 1) / 2;
            for (int edges = 0; edges < 1 << pairs; edges++) {
                for (int[] colours : COLOURINGS) {
                    compare(size, edges, colours);
                }
            }
        }
        CHECK.end();
    }

    private static void compare(int size, int edges, int[] colours) {
        CanonCote cote = new CanonCote();
        NaiveGraph graph = NaiveGraph.with(size);
        cote.begin(2, size);
        int pair = 0;
        for (int v = 0; v < size; v++) {
            cote.setColour(2, v, colours[v]);
            graph.colours[v] = colours[v];
            for (int w = 0; w < v; w++) {
                if ((edges >> pair & 1) == 1) {
                    cote.toggle(2, v, w);
                    graph.toggle(v, w);
                }
                pair++;
            }
        }
        String name = size + " vertices, edges " + edges + ", ";
        Comparison.compare(CHECK, name, cote, 2, graph);
    }
}
