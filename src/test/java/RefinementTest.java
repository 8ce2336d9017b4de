/** Promises 12 to 14. */
final class RefinementTest {
    private static final Check CHECK = new Check("RefinementTest");

    public static void main(String[] args) {
        coloursAlone();
        paths();
        orderOfNewClasses();
        regularGraphs();
        wrongInputs();
        CHECK.end();
    }

    private static void refined(CanonCote cote, int graph, String classes, int count, int rounds) {
        CHECK.due("12: classes, " + classes, cote.classes(graph), count);
        for (int vertex = 0; vertex < classes.length(); vertex++) {
            CHECK.due("13: class of " + vertex + " in " + classes,
                    cote.classOf(graph, vertex), classes.charAt(vertex) - '0');
        }
        CHECK.due("14: rounds, " + classes, cote.rounds(graph), rounds);
    }

    private static void coloursAlone() {
        CanonCote cote = new CanonCote();
        refined(cote, 0, "0000", 1, 1);
        cote.setColour(0, 0, 7);
        cote.setColour(0, 2, 3);
        refined(cote, 0, "2010", 3, 1);
        cote.begin(0, 1);
        refined(cote, 0, "0", 1, 1);
        cote.setColour(0, 0, 5);
        refined(cote, 0, "0", 1, 1);
        cote.begin(0, 8);
        for (int vertex = 0; vertex < 8; vertex++) {
            cote.setColour(0, vertex, 7 - vertex);
        }
        refined(cote, 0, "76543210", 8, 1);
        cote.complement(0);
        refined(cote, 0, "76543210", 8, 1);
    }

    private static void paths() {
        CanonCote cote = new CanonCote();
        Shapes.path(cote, 1, 2);
        refined(cote, 1, "00", 1, 1);
        Shapes.path(cote, 1, 3);
        refined(cote, 1, "010", 2, 2);
        Shapes.path(cote, 1, 5);
        refined(cote, 1, "02120", 3, 3);
        Shapes.path(cote, 1, 8);
        refined(cote, 1, "03122130", 4, 4);
        cote.setColour(1, 0, 1);
        refined(cote, 1, "71534260", 8, 4);
    }

    private static void orderOfNewClasses() {
        CanonCote cote = new CanonCote();
        // A star: its middle has most neighbours, and so comes last.
        Shapes.build(cote, 2, 5, "20 21 23 24");
        refined(cote, 2, "00100", 2, 2);
        // The old class weighs more than neighbours do.
        cote.setColour(2, 0, 2);
        refined(cote, 2, "20100", 3, 2);
        // The neighbours in the class 0 weigh more than those in the class 1.
        Shapes.build(cote, 2, 6, "02 13 14 15");
        for (int vertex = 3; vertex < 6; vertex++) {
            cote.setColour(2, vertex, 7);
        }
        cote.setColour(2, 0, 3);
        cote.setColour(2, 1, 3);
        refined(cote, 2, "210333", 4, 2);
    }

    private static void regularGraphs() {
        CanonCote cote = new CanonCote();
        Shapes.cycle(cote, 3, 8);
        refined(cote, 3, "00000000", 1, 1);
        cote.setColour(3, 0, 1);
        refined(cote, 3, "40312130", 5, 4);
        Shapes.cube(cote, 3);
        refined(cote, 3, "00000000", 1, 1);
        Shapes.build(cote, 3, 6, "01 12 20 34 45 53");
        refined(cote, 3, "000000", 1, 1);
    }

    private static void wrongInputs() {
        CanonCote cote = new CanonCote();
        for (int none : new int[] {-1, 4, Integer.MIN_VALUE, Integer.MAX_VALUE}) {
            CHECK.throwsIndex("12: graph " + none, () -> cote.classes(none));
            CHECK.throwsIndex("13: graph " + none, () -> cote.classOf(none, 0));
            CHECK.throwsIndex("13: vertex " + none, () -> cote.classOf(0, none));
            CHECK.throwsIndex("14: graph " + none, () -> cote.rounds(none));
        }
        cote.begin(0, 8);
        CHECK.throwsIndex("13: vertex 8", () -> cote.classOf(0, 8));
        CHECK.due("13: vertex 7", cote.classOf(0, 7), 0);
    }
}
