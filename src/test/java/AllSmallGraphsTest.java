/** Every graph of up to five vertices, in one colour and in some, compared with trying out all. */
final class AllSmallGraphsTest {
    private static final Check CHECK = new Check("AllSmallGraphsTest");
    private static final int[][] COLOURINGS = {{0, 0, 0, 0, 0}, {3, 0, 3, 0, 0}, {0, 7, 1, 1, 0}};

    public static void main(String[] args) {
        for (int size = 1; size <= 5; size++) {
            int pairs = size * (size - 1) / 2;
            for (int edges = 0; edges < 1 << pairs; edges++) {
                for (int[] colours : COLOURINGS) {
                    compare(size, edges, colours);
                }
            }
        }
        CHECK.end();
    }

    private static void compare(int size, int edges, int[] colours) {
        CanonCote cote = new CanonCote();
        NaiveGraph graph = NaiveGraph.with(size);
        cote.begin(2, size);
        int pair = 0;
        for (int v = 0; v < size; v++) {
            cote.setColour(2, v, colours[v]);
            graph.colours[v] = colours[v];
            for (int w = 0; w < v; w++) {
                if ((edges >> pair & 1) == 1) {
                    cote.toggle(2, v, w);
                    graph.toggle(v, w);
                }
                pair++;
            }
        }
        compareWhole(size + " vertices, edges " + edges + ", ", cote, graph);
    }

    private static void compareWhole(String name, CanonCote cote, NaiveGraph graph) {
        int[] refined = graph.refined();
        int[] places = graph.places();
        int[] orbits = graph.orbits();
        CHECK.due(name + "classes", cote.classes(2), refined[graph.size]);
        CHECK.due(name + "rounds", cote.rounds(2), refined[graph.size + 1]);
        CHECK.due(name + "form", cote.form(2), graph.form());
        CHECK.due(name + "symmetries", cote.symmetries(2), graph.symmetries());
        CHECK.due(name + "orbits", cote.orbits(2), java.util.Arrays.stream(orbits).distinct().count());
        for (int v = 0; v < graph.size; v++) {
            CHECK.due(name + "classOf " + v, cote.classOf(2, v), refined[v]);
            CHECK.due(name + "placeOf " + v, cote.placeOf(2, v), places[v]);
            CHECK.due(name + "orbit " + v, cote.orbit(2, v), orbits[v]);
            CHECK.due(name + "image " + v, cote.image(2, 2, v), v);
        }
        CHECK.due(name + "copies", cote.copies(2, 2), 1);
    }
}
