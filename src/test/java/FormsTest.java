/** Promises 15 to 19. */
final class FormsTest {
    private static final Check CHECK = new Check("FormsTest");
    private static final int[] NO_GRAPHS = {-1, 4, Integer.MIN_VALUE, Integer.MAX_VALUE};

    public static void main(String[] args) {
        formsOfEdges();
        formsOfColours();
        formsOfOneGraph();
        places();
        placesAmongSeveral();
        alike();
        images();
        imagesAmongSeveral();
        copiesInTheCube();
        copiesAtTheEdges();
        wrongInputs();
        CHECK.end();
    }

    private static long sized(int size) {
        return (long) size << 52;
    }

    private static long edgeAt(int place, int other) {
        int bit = 27;
        for (int p = 0; p < 8; p++) {
            for (int q = p + 1; q < 8; q++) {
                if (p == place && q == other) {
                    return 1L << bit;
                }
                bit--;
            }
        }
        return 0;
    }

    private static long colourAt(int place, int colour) {
        return (long) colour << 28 + 3 * (7 - place);
    }

    private static void formsOfEdges() {
        CanonCote cote = new CanonCote();
        for (int size = 1; size <= 8; size++) {
            cote.begin(0, size);
            CHECK.due("15: no edges, " + size, cote.form(0), sized(size));
        }
        cote.toggle(0, 0, 1);
        CHECK.due("15: one edge", cote.form(0), sized(8) | 1);
        cote.toggle(0, 0, 7);
        CHECK.due("15: path of three among eight", cote.form(0), sized(8) | edgeAt(5, 7) | edgeAt(6, 7));
        cote.begin(0, 8);
        cote.complement(0);
        CHECK.due("15: all edges", cote.form(0), sized(8) | (1 << 28) - 1);
        Shapes.path(cote, 1, 2);
        CHECK.due("15: path of two", cote.form(1), sized(2) | edgeAt(0, 1));
        Shapes.path(cote, 1, 3);
        CHECK.due("15: path of three", cote.form(1), sized(3) | edgeAt(0, 2) | edgeAt(1, 2));
        Shapes.cycle(cote, 1, 4);
        CHECK.due("15: cycle of four", cote.form(1),
                sized(4) | edgeAt(0, 2) | edgeAt(0, 3) | edgeAt(1, 2) | edgeAt(1, 3));
        Shapes.build(cote, 1, 4, "01 23");
        CHECK.due("15: two edges", cote.form(1), sized(4) | edgeAt(0, 3) | edgeAt(1, 2));
    }

    private static void formsOfColours() {
        CanonCote cote = new CanonCote();
        cote.begin(0, 2);
        cote.setColour(0, 0, 5);
        cote.setColour(0, 1, 2);
        CHECK.due("15: two colours", cote.form(0), sized(2) | colourAt(0, 2) | colourAt(1, 5));
        cote.toggle(0, 0, 1);
        CHECK.due("15: and an edge", cote.form(0), sized(2) | colourAt(0, 2) | colourAt(1, 5) | edgeAt(0, 1));
        // The middle of the path comes first by its colour, though that costs more for edges.
        Shapes.path(cote, 1, 3);
        cote.setColour(1, 0, 1);
        cote.setColour(1, 2, 1);
        CHECK.due("15: colours weigh more than edges", cote.form(1),
                sized(3) | colourAt(1, 1) | colourAt(2, 1) | edgeAt(0, 1) | edgeAt(0, 2));
        cote.begin(2, 8);
        long due = sized(8);
        for (int vertex = 0; vertex < 8; vertex++) {
            cote.setColour(2, vertex, 7 - vertex);
            due |= colourAt(vertex, vertex);
        }
        CHECK.due("15: eight colours", cote.form(2), due);
        cote.toggle(2, 0, 7);
        CHECK.due("15: and an edge of the outer ones", cote.form(2), due | edgeAt(0, 7));
    }

    private static void formsOfOneGraph() {
        CanonCote cote = new CanonCote();
        Shapes.build(cote, 0, 8, "01 12 23 34 45 56 67 70 04 26 13");
        cote.setColour(0, 3, 1);
        long form = cote.form(0);
        for (int step = 0; step < 40; step++) {
            cote.swap(0, step % 8, step * 5 % 7);
            CHECK.due("15: after swaps", cote.form(0), form);
        }
    }

    private static void places() {
        CanonCote cote = new CanonCote();
        Shapes.path(cote, 0, 3);
        placesAre(cote, 0, "021");
        Shapes.build(cote, 0, 3, "01");
        placesAre(cote, 0, "120");
        cote.setColour(0, 2, 1);
        placesAre(cote, 0, "012");
        Shapes.build(cote, 0, 8, "07 03");
        placesAre(cote, 0, "70152346");
        cote.begin(0, 1);
        placesAre(cote, 0, "0");
        cote.begin(0, 8);
        for (int vertex = 0; vertex < 8; vertex++) {
            cote.setColour(0, vertex, vertex * 3 % 8);
        }
        placesAre(cote, 0, "03614725");
    }

    private static void placesAmongSeveral() {
        CanonCote cote = new CanonCote();
        cote.begin(0, 8);
        placesAre(cote, 0, "01234567");
        cote.complement(0);
        placesAre(cote, 0, "01234567");
        Shapes.cycle(cote, 0, 4);
        placesAre(cote, 0, "0213");
        Shapes.build(cote, 0, 4, "02 13");
        placesAre(cote, 0, "0132");
        Shapes.build(cote, 0, 4, "01 23");
        placesAre(cote, 0, "0312");
    }

    private static void placesAre(CanonCote cote, int graph, String due) {
        for (int vertex = 0; vertex < due.length(); vertex++) {
            CHECK.due("16: place of " + vertex + " in " + due, cote.placeOf(graph, vertex), due.charAt(vertex) - '0');
        }
    }

    private static void alike() {
        CanonCote cote = new CanonCote();
        CHECK.due("17: new graphs", cote.areAlike(0, 3), true);
        CHECK.due("17: itself", cote.areAlike(2, 2), true);
        cote.begin(1, 5);
        CHECK.due("17: other sizes", cote.areAlike(0, 1), false);
        Shapes.path(cote, 0, 5);
        Shapes.build(cote, 1, 5, "42 21 13 30");
        CHECK.due("17: two paths", cote.areAlike(0, 1), true);
        CHECK.due("17: the other way", cote.areAlike(1, 0), true);
        cote.setColour(0, 0, 1);
        cote.setColour(1, 2, 1);
        CHECK.due("17: colours elsewhere", cote.areAlike(0, 1), false);
        cote.setColour(1, 2, 0);
        cote.setColour(1, 4, 2);
        CHECK.due("17: another colour", cote.areAlike(0, 1), false);
        cote.setColour(1, 4, 1);
        CHECK.due("17: the same colour", cote.areAlike(0, 1), true);
        Shapes.cycle(cote, 2, 6);
        Shapes.build(cote, 3, 6, "01 12 20 34 45 53");
        CHECK.due("17: a cycle and two", cote.areAlike(2, 3), false);
        Shapes.cube(cote, 2);
        Shapes.cycle(cote, 3, 8);
        for (int vertex = 0; vertex < 4; vertex++) {
            cote.toggle(3, vertex, vertex + 4);
        }
        CHECK.due("17: the cube and another of three edges each", cote.areAlike(2, 3), false);
        CHECK.due("17: nothing is changed", cote.edges(2), 12);
    }

    private static void imagesAre(CanonCote cote, int graph, int other, String due) {
        for (int vertex = 0; vertex < due.length(); vertex++) {
            CHECK.due("18: image of " + vertex + " in " + due,
                    cote.image(graph, other, vertex), due.charAt(vertex) - '0');
        }
    }

    private static void images() {
        CanonCote cote = new CanonCote();
        Shapes.path(cote, 0, 5);
        Shapes.build(cote, 1, 5, "42 21 13 30");
        imagesAre(cote, 0, 1, "03124");
        imagesAre(cote, 1, 0, "02314");
        cote.setColour(0, 0, 1);
        cote.setColour(1, 4, 1);
        imagesAre(cote, 0, 1, "42130");
        cote.setColour(0, 0, 2);
        CHECK.due("18: other colours", cote.image(0, 1, 0), CanonCote.NONE);
        cote.begin(2, 3);
        CHECK.due("18: other sizes", cote.image(2, 1, 2), CanonCote.NONE);
        CHECK.due("18: other sizes, the other way", cote.image(1, 2, 4), CanonCote.NONE);
        Shapes.cycle(cote, 2, 6);
        Shapes.build(cote, 3, 6, "01 12 20 34 45 53");
        CHECK.due("18: a cycle and two", cote.image(2, 3, 5), CanonCote.NONE);
    }

    private static void imagesAmongSeveral() {
        CanonCote cote = new CanonCote();
        Shapes.cube(cote, 0);
        imagesAre(cote, 0, 0, "01234567");
        cote.copy(0, 1);
        cote.swap(1, 0, 7);
        cote.swap(1, 2, 3);
        imagesAre(cote, 0, 1, "02516347");
        Shapes.path(cote, 2, 3);
        Shapes.build(cote, 3, 3, "01 02");
        imagesAre(cote, 2, 3, "102");
        imagesAre(cote, 3, 2, "102");
        // One class by refinement, but the lowest vertices don't fit: the search has to go back.
        Shapes.build(cote, 2, 7, "01 12 23 30 45 56 64");
        Shapes.build(cote, 3, 7, "01 12 20 34 45 56 63");
        imagesAre(cote, 2, 3, "3456012");
        imagesAre(cote, 3, 2, "4560123");
    }

    private static void copiesInTheCube() {
        CanonCote cote = new CanonCote();
        Shapes.cube(cote, 0);
        Shapes.path(cote, 1, 1);
        CHECK.due("19: vertices", cote.copies(1, 0), 8);
        Shapes.path(cote, 1, 2);
        CHECK.due("19: edges", cote.copies(1, 0), 12);
        cote.begin(1, 2);
        CHECK.due("19: missing edges", cote.copies(1, 0), 16);
        Shapes.path(cote, 1, 3);
        CHECK.due("19: paths", cote.copies(1, 0), 24);
        Shapes.cycle(cote, 1, 3);
        CHECK.due("19: triangles", cote.copies(1, 0), 0);
        cote.begin(1, 4);
        CHECK.due("19: four apart", cote.copies(1, 0), 2);
        Shapes.cycle(cote, 1, 4);
        CHECK.due("19: sides", cote.copies(1, 0), 6);
        Shapes.cycle(cote, 1, 6);
        CHECK.due("19: rings", cote.copies(1, 0), 4);
        CHECK.due("19: itself", cote.copies(0, 0), 1);
        CHECK.due("19: a larger one in a smaller one", cote.copies(0, 1), 0);
    }

    private static void copiesAtTheEdges() {
        CanonCote cote = new CanonCote();
        cote.begin(0, 8);
        cote.begin(1, 4);
        CHECK.due("19: without edges", cote.copies(1, 0), 70);
        cote.complement(0);
        CHECK.due("19: edges among each other count", cote.copies(1, 0), 0);
        cote.complement(1);
        CHECK.due("19: complete", cote.copies(1, 0), 70);
        cote.setColour(0, 7, 3);
        CHECK.due("19: one of another colour", cote.copies(1, 0), 35);
        cote.setColour(1, 0, 3);
        CHECK.due("19: with the other colour", cote.copies(1, 0), 35);
        cote.setColour(1, 0, 2);
        CHECK.due("19: a colour that is missing", cote.copies(1, 0), 0);
        // As many edges, but no map: a star and a triangle beside a vertex.
        Shapes.build(cote, 2, 4, "01 02 03");
        Shapes.build(cote, 3, 4, "01 12 20");
        CHECK.due("19: as many edges", cote.copies(2, 3), 0);
        CHECK.due("19: nothing is changed", cote.size(0), 8);
    }

    private static void wrongInputs() {
        CanonCote cote = new CanonCote();
        for (int none : NO_GRAPHS) {
            CHECK.throwsIndex("15: graph " + none, () -> cote.form(none));
            CHECK.throwsIndex("16: graph " + none, () -> cote.placeOf(none, 0));
            CHECK.throwsIndex("16: vertex " + none, () -> cote.placeOf(0, none));
            CHECK.throwsIndex("17: graph " + none, () -> cote.areAlike(none, 0));
            CHECK.throwsIndex("17: other " + none, () -> cote.areAlike(0, none));
            CHECK.throwsIndex("18: graph " + none, () -> cote.image(none, 0, 0));
            CHECK.throwsIndex("18: other " + none, () -> cote.image(0, none, 0));
            CHECK.throwsIndex("18: vertex " + none, () -> cote.image(0, 1, none));
            CHECK.throwsIndex("19: small " + none, () -> cote.copies(none, 0));
            CHECK.throwsIndex("19: large " + none, () -> cote.copies(0, none));
        }
        cote.begin(0, 3);
        CHECK.throwsIndex("16: vertex 3", () -> cote.placeOf(0, 3));
        CHECK.throwsIndex("18: a vertex that the other one has", () -> cote.image(0, 1, 3));
        CHECK.due("18: a vertex that the other one hasn't", cote.image(1, 0, 3), CanonCote.NONE);
    }
}
