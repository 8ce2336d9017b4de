/** Promises 1 to 11. */
final class GraphsTest {
    private static final Check CHECK = new Check("GraphsTest");
    private static final int[] NO_GRAPHS = {-1, 4, Integer.MIN_VALUE, Integer.MAX_VALUE};

    public static void main(String[] args) {
        newObject();
        begin();
        toggle();
        setColour();
        swap();
        copy();
        complement();
        size();
        edges();
        neighbours();
        colour();
        throwingChangesNothing();
        CHECK.end();
    }

    private static void newObject() {
        CanonCote cote = new CanonCote();
        for (int graph = 0; graph < 4; graph++) {
            CHECK.due("1: size of graph " + graph, cote.size(graph), 4);
            CHECK.due("1: edges of graph " + graph, cote.edges(graph), 0);
            for (int vertex = 0; vertex < 4; vertex++) {
                CHECK.due("1: neighbours", cote.neighbours(graph, vertex), 0);
                CHECK.due("1: colour", cote.colour(graph, vertex), 0);
            }
        }
        CHECK.due("1: order", cote.order(), 1);
        CHECK.due("1: generators", cote.forgetGenerators(), 0);
        cote.toggle(0, 0, 1);
        cote.addGenerator(0x76543201L);
        CanonCote other = new CanonCote();
        CHECK.due("1: another object's edges", other.edges(0), 0);
        CHECK.due("1: another object's order", other.order(), 1);
    }

    private static void begin() {
        CanonCote cote = new CanonCote();
        CHECK.due("2: first", cote.begin(0, 8), 4);
        CHECK.due("2: second", cote.begin(0, 1), 8);
        CHECK.due("2: third", cote.begin(0, 5), 1);
        CHECK.due("2: others stay", cote.size(1), 4);
        cote.toggle(0, 3, 4);
        cote.setColour(0, 4, 6);
        cote.setColour(0, 0, 2);
        CHECK.due("2: smaller", cote.begin(0, 2), 5);
        CHECK.due("2: larger", cote.begin(0, 5), 2);
        CHECK.due("2: no edges", cote.edges(0), 0);
        CHECK.due("2: no neighbours", cote.neighbours(0, 4), 0);
        CHECK.due("2: no colours", cote.colour(0, 0) + cote.colour(0, 4), 0);
        cote.toggle(0, 0, 1);
        CHECK.due("2: the same size", cote.begin(0, 5), 5);
        CHECK.due("2: no edges again", cote.edges(0), 0);
        for (int none : NO_GRAPHS) {
            CHECK.throwsIndex("2: graph " + none, () -> cote.begin(none, 3));
            CHECK.throwsIndex("2: graph first, " + none, () -> cote.begin(none, 9));
        }
        for (int wrong : new int[] {0, 9, -1, Integer.MIN_VALUE, Integer.MAX_VALUE}) {
            CHECK.throwsArgument("2: size " + wrong, () -> cote.begin(0, wrong));
        }
        CHECK.due("2: nothing changed", cote.size(0), 5);
    }

    private static void toggle() {
        CanonCote cote = new CanonCote();
        CHECK.due("3: gives", cote.toggle(2, 3, 1), true);
        CHECK.due("3: one side", cote.neighbours(2, 3), 2);
        CHECK.due("3: other side", cote.neighbours(2, 1), 8);
        CHECK.due("3: takes", cote.toggle(2, 1, 3), false);
        CHECK.due("3: none left", cote.edges(2), 0);
        CHECK.due("3: gives again", cote.toggle(2, 1, 3), true);
        CHECK.due("3: other graphs", cote.edges(1) + cote.edges(3), 0);
        for (int none : NO_GRAPHS) {
            CHECK.throwsIndex("3: graph " + none, () -> cote.toggle(none, 0, 1));
            CHECK.throwsIndex("3: graph first, " + none, () -> cote.toggle(none, 1, 1));
            CHECK.throwsIndex("3: vertex " + none, () -> cote.toggle(2, none, 1));
            CHECK.throwsIndex("3: other " + none, () -> cote.toggle(2, 1, none));
            CHECK.throwsIndex("3: vertex first, " + none, () -> cote.toggle(2, none, none));
        }
        CHECK.throwsArgument("3: same", () -> cote.toggle(2, 3, 3));
        CHECK.due("3: nothing changed", cote.edges(2), 1);
        cote.begin(2, 8);
        CHECK.due("3: last two", cote.toggle(2, 7, 6), true);
        CHECK.throwsIndex("3: vertex 8", () -> cote.toggle(2, 8, 0));
    }

    private static void setColour() {
        CanonCote cote = new CanonCote();
        CHECK.due("4: first", cote.setColour(1, 3, 7), 0);
        CHECK.due("4: second", cote.setColour(1, 3, 5), 7);
        CHECK.due("4: the same", cote.setColour(1, 3, 5), 5);
        CHECK.due("4: back", cote.setColour(1, 3, 0), 5);
        CHECK.due("4: another vertex", cote.setColour(1, 2, 1), 0);
        CHECK.due("4: another graph", cote.colour(2, 2), 0);
        for (int none : NO_GRAPHS) {
            CHECK.throwsIndex("4: graph " + none, () -> cote.setColour(none, 0, 1));
            CHECK.throwsIndex("4: graph first, " + none, () -> cote.setColour(none, 0, 8));
            CHECK.throwsIndex("4: vertex " + none, () -> cote.setColour(0, none, 1));
            CHECK.throwsIndex("4: vertex first, " + none, () -> cote.setColour(0, none, -1));
        }
        for (int wrong : new int[] {8, -1, Integer.MIN_VALUE, Integer.MAX_VALUE}) {
            CHECK.throwsArgument("4: colour " + wrong, () -> cote.setColour(1, 2, wrong));
        }
        CHECK.due("4: nothing changed", cote.colour(1, 2), 1);
    }

    private static void swap() {
        CanonCote cote = new CanonCote();
        Shapes.build(cote, 0, 5, "01 12 14 23");
        cote.setColour(0, 1, 3);
        cote.setColour(0, 3, 6);
        cote.swap(0, 1, 3);
        int[] near = {8, 4, 10, 21, 8};
        int[] colours = {0, 6, 0, 3, 0};
        for (int vertex = 0; vertex < 5; vertex++) {
            CHECK.due("5: neighbours " + vertex, cote.neighbours(0, vertex), near[vertex]);
            CHECK.due("5: colour " + vertex, cote.colour(0, vertex), colours[vertex]);
        }
        cote.swap(0, 3, 4);
        CHECK.due("5: an edge between both stays", cote.neighbours(0, 4), 13);
        CHECK.due("5: its other end", cote.neighbours(0, 3), 16);
        long before = cote.form(0);
        cote.swap(0, 4, 4);
        CHECK.due("5: the same vertex", cote.neighbours(0, 4), 13);
        CHECK.due("5: the form stays", cote.form(0), before);
        for (int none : NO_GRAPHS) {
            CHECK.throwsIndex("5: graph " + none, () -> cote.swap(none, 0, 1));
            CHECK.throwsIndex("5: vertex " + none, () -> cote.swap(1, none, 1));
            CHECK.throwsIndex("5: other " + none, () -> cote.swap(1, 1, none));
        }
        CHECK.throwsIndex("5: beyond the size", () -> cote.swap(0, 0, 5));
        CHECK.due("5: nothing changed", cote.neighbours(0, 0), 16);
    }

    private static void copy() {
        CanonCote cote = new CanonCote();
        Shapes.build(cote, 0, 6, "01 25");
        cote.setColour(0, 5, 4);
        Shapes.build(cote, 3, 8, "67 17");
        cote.setColour(3, 7, 1);
        cote.copy(0, 3);
        CHECK.due("6: size", cote.size(3), 6);
        CHECK.due("6: edges", cote.edges(3), 2);
        CHECK.due("6: neighbours", cote.neighbours(3, 5), 4);
        CHECK.due("6: no old ones", cote.neighbours(3, 1), 1);
        CHECK.due("6: colour", cote.colour(3, 5), 4);
        cote.toggle(3, 0, 1);
        CHECK.due("6: the model stays", cote.edges(0), 2);
        cote.toggle(0, 3, 4);
        CHECK.due("6: the copy stays", cote.edges(3), 1);
        cote.copy(0, 0);
        CHECK.due("6: the same", cote.edges(0), 3);
        CHECK.due("6: the same's colour", cote.colour(0, 5), 4);
        cote.begin(3, 8);
        CHECK.due("6: nothing of the old behind the size", cote.neighbours(3, 7), 0);
        for (int none : NO_GRAPHS) {
            CHECK.throwsIndex("6: from " + none, () -> cote.copy(none, 1));
            CHECK.throwsIndex("6: to " + none, () -> cote.copy(1, none));
        }
    }

    private static void complement() {
        CanonCote cote = new CanonCote();
        CHECK.due("7: complete", cote.complement(0), 6);
        CHECK.due("7: neighbours", cote.neighbours(0, 2), 11);
        CHECK.due("7: back", cote.complement(0), 0);
        Shapes.path(cote, 1, 5);
        cote.setColour(1, 2, 3);
        CHECK.due("7: path", cote.complement(1), 6);
        CHECK.due("7: path's end", cote.neighbours(1, 0), 28);
        CHECK.due("7: colours stay", cote.colour(1, 2), 3);
        cote.begin(2, 8);
        CHECK.due("7: eight", cote.complement(2), 28);
        cote.begin(2, 1);
        CHECK.due("7: one", cote.complement(2), 0);
        CHECK.due("7: one's neighbours", cote.neighbours(2, 0), 0);
        for (int none : NO_GRAPHS) {
            CHECK.throwsIndex("7: graph " + none, () -> cote.complement(none));
        }
    }

    private static void size() {
        CanonCote cote = new CanonCote();
        for (int size = 1; size <= 8; size++) {
            cote.begin(size & 3, size);
            CHECK.due("8: size", cote.size(size & 3), size);
        }
        for (int none : NO_GRAPHS) {
            CHECK.throwsIndex("8: graph " + none, () -> cote.size(none));
        }
    }

    private static void edges() {
        CanonCote cote = new CanonCote();
        cote.begin(1, 8);
        int count = 0;
        for (int vertex = 0; vertex < 8; vertex++) {
            for (int other = 0; other < vertex; other++) {
                cote.toggle(1, vertex, other);
                count++;
                CHECK.due("9: edges", cote.edges(1), count);
            }
        }
        CHECK.due("9: all", count, 28);
        for (int none : NO_GRAPHS) {
            CHECK.throwsIndex("9: graph " + none, () -> cote.edges(none));
        }
    }

    private static void neighbours() {
        CanonCote cote = new CanonCote();
        Shapes.build(cote, 3, 8, "07 37 17 12");
        CHECK.due("10: vertex 7", cote.neighbours(3, 7), 11);
        CHECK.due("10: vertex 1", cote.neighbours(3, 1), 132);
        CHECK.due("10: vertex 4", cote.neighbours(3, 4), 0);
        for (int none : NO_GRAPHS) {
            CHECK.throwsIndex("10: graph " + none, () -> cote.neighbours(none, 0));
            CHECK.throwsIndex("10: vertex " + none, () -> cote.neighbours(0, none));
        }
        CHECK.throwsIndex("10: vertex 8", () -> cote.neighbours(3, 8));
    }

    private static void colour() {
        CanonCote cote = new CanonCote();
        cote.begin(2, 8);
        for (int vertex = 0; vertex < 8; vertex++) {
            cote.setColour(2, vertex, 7 - vertex);
        }
        for (int vertex = 0; vertex < 8; vertex++) {
            CHECK.due("11: colour", cote.colour(2, vertex), 7 - vertex);
        }
        for (int none : NO_GRAPHS) {
            CHECK.throwsIndex("11: graph " + none, () -> cote.colour(none, 0));
            CHECK.throwsIndex("11: vertex " + none, () -> cote.colour(0, none));
        }
        CHECK.throwsIndex("11: vertex 8", () -> cote.colour(2, 8));
    }

    private static void throwingChangesNothing() {
        CanonCote cote = new CanonCote();
        Shapes.build(cote, 0, 6, "01 12 34");
        cote.setColour(0, 2, 5);
        CHECK.throwsArgument("begin", () -> cote.begin(0, 9));
        CHECK.throwsArgument("toggle", () -> cote.toggle(0, 1, 1));
        CHECK.throwsIndex("toggle", () -> cote.toggle(0, 1, 6));
        CHECK.throwsArgument("setColour", () -> cote.setColour(0, 2, 8));
        CHECK.throwsIndex("swap", () -> cote.swap(0, 0, 6));
        CHECK.throwsIndex("copy", () -> cote.copy(4, 0));
        CHECK.throwsIndex("copy", () -> cote.copy(0, -1));
        CHECK.due("size", cote.size(0), 6);
        CHECK.due("edges", cote.edges(0), 3);
        CHECK.due("neighbours", cote.neighbours(0, 1), 5);
        CHECK.due("colour", cote.colour(0, 2), 5);
    }
}
