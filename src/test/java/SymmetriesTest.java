/** Promises 20 to 22. */
final class SymmetriesTest {
    private static final Check CHECK = new Check("SymmetriesTest");

    public static void main(String[] args) {
        wellKnownGraphs();
        colouredGraphs();
        orbitsOfPaths();
        wrongInputs();
        CHECK.end();
    }

    /** The orbits are told by a sign for each vertex, the same one for vertices in one orbit. */
    private static void graphHas(CanonCote cote, int graph, String name, int symmetries, String signs) {
        CHECK.due("20: symmetries of " + name, cote.symmetries(graph), symmetries);
        CHECK.due("21: orbits of " + name, cote.orbits(graph), signs.chars().distinct().count());
        for (int vertex = 0; vertex < signs.length(); vertex++) {
            int due = 0;
            for (int other = 0; other < signs.length(); other++) {
                due |= signs.charAt(other) == signs.charAt(vertex) ? 1 << other : 0;
            }
            CHECK.due("22: orbit of " + vertex + " in " + name, cote.orbit(graph, vertex), due);
        }
    }

    private static void wellKnownGraphs() {
        CanonCote cote = new CanonCote();
        int due = 1;
        for (int size = 1; size <= 8; size++) {
            due *= size;
            cote.begin(0, size);
            graphHas(cote, 0, "no edges", due, "00000000".substring(0, size));
            cote.complement(0);
            graphHas(cote, 0, "all edges", due, "00000000".substring(0, size));
        }
        Shapes.cycle(cote, 1, 8);
        graphHas(cote, 1, "a cycle", 16, "00000000");
        cote.complement(1);
        graphHas(cote, 1, "its complement", 16, "00000000");
        Shapes.cube(cote, 1);
        graphHas(cote, 1, "the cube", 48, "00000000");
        Shapes.build(cote, 1, 8, "01 23 45 67");
        graphHas(cote, 1, "four edges", 384, "00000000");
        Shapes.build(cote, 1, 8, "01 02 03 12 13 23 45 46 47 56 57 67");
        graphHas(cote, 1, "two of four", 1152, "00000000");
        Shapes.build(cote, 1, 7, "03 13 23 34 45 46");
        graphHas(cote, 1, "a double star", 12, "0003455");
        Shapes.build(cote, 1, 5, "01 12 23 14 24");
        graphHas(cote, 1, "a triangle with two tails", 2, "01104");
        Shapes.build(cote, 1, 7, "01 12 23 34 45 26");
        graphHas(cote, 1, "a tree with no symmetry", 1, "0123456");
    }

    private static void colouredGraphs() {
        CanonCote cote = new CanonCote();
        cote.begin(0, 8);
        for (int vertex = 0; vertex < 8; vertex++) {
            cote.setColour(0, vertex, vertex % 2 * 7);
        }
        graphHas(cote, 0, "two colours", 576, "01010101");
        cote.setColour(0, 7, 3);
        graphHas(cote, 0, "three colours", 144, "01010107");
        Shapes.cycle(cote, 1, 6);
        cote.setColour(1, 2, 1);
        graphHas(cote, 1, "a cycle with a spot", 2, "012105");
        cote.setColour(1, 5, 1);
        graphHas(cote, 1, "a cycle with two spots", 4, "002002");
    }

    private static void orbitsOfPaths() {
        CanonCote cote = new CanonCote();
        Shapes.path(cote, 2, 5);
        graphHas(cote, 2, "path of five", 2, "01210");
        cote.setColour(2, 4, 1);
        graphHas(cote, 2, "path with a spot", 1, "01234");
        // One class by refinement, but not one orbit.
        Shapes.build(cote, 3, 7, "01 12 20 34 45 56 63");
        CHECK.due("12: classes", cote.classes(3), 1);
        graphHas(cote, 3, "cycles of three and four", 48, "0003333");
    }

    private static void wrongInputs() {
        CanonCote cote = new CanonCote();
        for (int none : new int[] {-1, 4, Integer.MIN_VALUE, Integer.MAX_VALUE}) {
            CHECK.throwsIndex("20: graph " + none, () -> cote.symmetries(none));
            CHECK.throwsIndex("21: graph " + none, () -> cote.orbits(none));
            CHECK.throwsIndex("22: graph " + none, () -> cote.orbit(none, 0));
            CHECK.throwsIndex("22: vertex " + none, () -> cote.orbit(0, none));
        }
        cote.begin(0, 8);
        CHECK.throwsIndex("22: vertex 8", () -> cote.orbit(0, 8));
        CHECK.due("22: vertex 7", cote.orbit(0, 7), 255);
    }
}
