import java.util.List;

/**
 * The document's sentences once more, in their order: of each one the boundaries that it has, too
 * small, too large, empty, full, the first and the last one. What is refused stands in
 * RefusedCallsTest.
 */
final class BoundariesTest {
    private static final Check CHECK = new Check("BoundariesTest");
    private static final long IDENTITY = 0x76543210L;
    private static final long FIRST_TWO = 0x76543201L;
    private static final long LAST_TWO = 0x67543210L;
    private static final long ROUND = 0x07654321L;

    /** The bit of each place and the one behind it; the pairs with places further behind follow. */
    private static final int[] BIT_OF_NEXT_PLACE = {27, 20, 14, 9, 5, 2, 0};

    public static void main(String[] args) {
        graphsAndSizes();
        edgesOfTwoVertices();
        coloursOfVertices();
        numbersOfVertices();
        firstClasses();
        newClasses();
        roundsFollow();
        bitsOfEdges();
        bitsOfColoursAndSizes();
        leastAndGreatestForms();
        mapsOfAlikeGraphs();
        generatorsAtFirst();
        imagesInPermutations();
        anyNumberOfTimes();
        beginAgain();
        swapTwice();
        copyOverOthers();
        complementTwice();
        placesOfSeveral();
        imagesAndNone();
        copiesOfSizes();
        fewestAndMostSymmetries();
        fullAndForgotten();
        membersOfGroups();
        movedAndFixed();
        CHECK.end();
    }

    private static long sized(int size) {
        return (long) size << 52;
    }

    private static void colourAll(CanonCote cote, int graph, String colours) {
        for (int vertex = 0; vertex < colours.length(); vertex++) {
            cote.setColour(graph, vertex, colours.charAt(vertex) - '0');
        }
    }

    // ---- Terms: graphs

    private static void graphsAndSizes() {
        CanonCote cote = new CanonCote();
        for (int graph = 0; graph < 4; graph++) {
            CHECK.due("Terms: size at first", cote.size(graph), 4);
            CHECK.due("Terms: the smallest", cote.begin(graph, 1), 4);
            CHECK.due("Terms: the largest", cote.begin(graph, 8), 1);
            for (int before = 0; before < graph; before++) {
                CHECK.due("Terms: others stay", cote.size(before), 1);
            }
            CHECK.due("Terms: the smallest again", cote.begin(graph, 1), 8);
        }
    }

    private static void edgesOfTwoVertices() {
        CanonCote cote = new CanonCote();
        for (int vertex = 0; vertex < 4; vertex++) {
            CHECK.due("Terms: no edges at first", cote.neighbours(3, vertex), 0);
        }
        cote.begin(0, 8);
        for (int vertex = 0; vertex < 8; vertex++) {
            for (int other = 0; other < 8; other++) {
                if (other != vertex) {
                    String name = "3: edge " + vertex + other;
                    CHECK.due(name + " given", cote.toggle(0, vertex, other), true);
                    CHECK.due(name + " here", cote.neighbours(0, vertex), 1 << other);
                    CHECK.due(name + " there", cote.neighbours(0, other), 1 << vertex);
                    CHECK.due(name + " taken from the other side", cote.toggle(0, other, vertex), false);
                    CHECK.due(name + " none left", cote.edges(0), 0);
                }
            }
        }
    }

    private static void coloursOfVertices() {
        CanonCote cote = new CanonCote();
        cote.begin(3, 8);
        for (int vertex = 0; vertex < 8; vertex++) {
            for (int colour = 0; colour < 8; colour++) {
                CHECK.due("4: colour that it had", cote.setColour(3, vertex, colour), Math.max(colour - 1, 0));
                CHECK.due("11: colour", cote.colour(3, vertex), colour);
            }
            CHECK.due("4: the greatest again", cote.setColour(3, vertex, 7), 7);
            CHECK.due("11: the next vertex's colour", cote.colour(3, (vertex + 1) % 8), vertex < 7 ? 0 : 7);
        }
        CHECK.due("4: edges stay", cote.edges(3), 0);
    }

    private static void numbersOfVertices() {
        CanonCote cote = new CanonCote();
        for (int size = 8; size >= 1; size--) {
            cote.begin(2, size);
            int beyond = size;
            CHECK.due("Terms: the last vertex", cote.neighbours(2, size - 1), 0);
            CHECK.throwsIndex("10: beyond", () -> cote.neighbours(2, beyond));
            CHECK.throwsIndex("11: beyond", () -> cote.colour(2, beyond));
            CHECK.throwsIndex("13: beyond", () -> cote.classOf(2, beyond));
            CHECK.throwsIndex("16: beyond", () -> cote.placeOf(2, beyond));
            CHECK.throwsIndex("18: beyond", () -> cote.image(2, 2, beyond));
            CHECK.throwsIndex("22: beyond", () -> cote.orbit(2, beyond));
            CHECK.throwsIndex("3: beyond", () -> cote.toggle(2, beyond, 0));
            CHECK.throwsIndex("3: other beyond", () -> cote.toggle(2, 0, beyond));
            CHECK.throwsIndex("4: beyond", () -> cote.setColour(2, beyond, 0));
            CHECK.throwsIndex("5: beyond", () -> cote.swap(2, beyond, 0));
            CHECK.throwsIndex("5: other beyond", () -> cote.swap(2, 0, beyond));
        }
        cote.begin(2, 5);
        cote.begin(3, 8);
        cote.copy(2, 3);
        CHECK.throwsIndex("6: beyond the size that was copied", () -> cote.colour(3, 5));
    }

    // ---- Terms: refinement

    private static void refined(CanonCote cote, String classes, int count, int rounds) {
        CHECK.due("12: classes " + classes, cote.classes(0), count);
        CHECK.due("14: rounds " + classes, cote.rounds(0), rounds);
        for (int vertex = 0; vertex < classes.length(); vertex++) {
            CHECK.due("13: class of " + vertex + " in " + classes,
                    cote.classOf(0, vertex), classes.charAt(vertex) - '0');
        }
    }

    /** "At first vertices are in one class if they have the same colour", by rising colours. */
    private static void firstClasses() {
        CanonCote cote = new CanonCote();
        colourAll(cote, 0, "7070");
        refined(cote, "1010", 2, 1);
        colourAll(cote, 0, "7777");
        refined(cote, "0000", 1, 1);
        cote.begin(0, 8);
        colourAll(cote, 0, "61724350");
        refined(cote, "61724350", 8, 1);
        colourAll(cote, 0, "66220044");
        refined(cote, "33110022", 4, 1);
        for (int size = 1; size <= 8; size++) {
            cote.begin(0, size);
            refined(cote, "00000000".substring(0, size), 1, 1);
            cote.complement(0);
            refined(cote, "00000000".substring(0, size), 1, 1);
        }
    }

    /** The class before weighs most, then neighbours in the class 0, then in the class 1; fewer first. */
    private static void newClasses() {
        CanonCote cote = new CanonCote();
        Shapes.build(cote, 0, 4, "01");
        refined(cote, "1100", 2, 2);
        colourAll(cote, 0, "0011");
        refined(cote, "0011", 2, 1);
        Shapes.build(cote, 0, 4, "01 02 03");
        refined(cote, "1000", 2, 2);
        colourAll(cote, 0, "0111");
        refined(cote, "0111", 2, 1);
        // Vertex 2 has one neighbour in the class 0, vertex 3 none, but three in the class 1.
        Shapes.build(cote, 0, 7, "20 34 35 36");
        colourAll(cote, 0, "0022111");
        refined(cote, "1043222", 5, 2);
        // Vertices 0 and 1 have as many neighbours in the class 0, so the class 1 tells.
        Shapes.build(cote, 0, 6, "04 14 15 24 25");
        colourAll(cote, 0, "222201");
        refined(cote, "344201", 5, 2);
    }

    /** "Rounds follow until one does not bring more classes; that one counts, too." */
    private static void roundsFollow() {
        CanonCote cote = new CanonCote();
        Shapes.path(cote, 0, 4);
        refined(cote, "0110", 2, 2);
        Shapes.path(cote, 0, 6);
        refined(cote, "021120", 3, 3);
        // Each round brings one class more: with numbers that change within a round fewer would do.
        Shapes.path(cote, 0, 7);
        refined(cote, "0312130", 4, 4);
        // The most rounds that a search through three million drawn graphs met.
        Shapes.build(cote, 0, 8, "02 23 04 14 24 34 15 25 35 06 16 46 56 07 17 27 37");
        CHECK.due("12: each round brings more", cote.classes(0), 8);
        CHECK.due("14: most rounds", cote.rounds(0), 7);
    }

    // ---- Terms: forms

    private static long bitOf(int place, int later) {
        return 1L << BIT_OF_NEXT_PLACE[place] - (later - place - 1);
    }

    /** Eight colours force each vertex onto one place, so that each pair of places can be looked at. */
    private static void bitsOfEdges() {
        CanonCote cote = new CanonCote();
        cote.begin(0, 8);
        colourAll(cote, 0, "01234567");
        long bare = cote.form(0);
        for (int place = 0; place < 8; place++) {
            for (int later = place + 1; later < 8; later++) {
                cote.toggle(0, place, later);
                CHECK.due("15: bit of " + place + later, cote.form(0), bare | bitOf(place, later));
                cote.toggle(0, place, later);
            }
        }
        for (int size = 1; size <= 8; size++) {
            cote.begin(1, size);
            cote.complement(1);
            long due = sized(size);
            for (int place = 0; place < size; place++) {
                for (int later = place + 1; later < size; later++) {
                    due |= bitOf(place, later);
                }
            }
            CHECK.due("15: no bits for places without a vertex, " + size, cote.form(1), due);
        }
    }

    /** Octal numbers have a digit for each place's colour. */
    private static void bitsOfColoursAndSizes() {
        CanonCote cote = new CanonCote();
        for (int size = 1; size <= 8; size++) {
            cote.begin(0, size);
            CHECK.due("15: size " + size, cote.form(0), sized(size));
            cote.setColour(0, 0, 7);
            CHECK.due("15: the greatest colour comes last, " + size, cote.form(0), sized(size) | 7L << 52 - 3 * size);
        }
        for (int colour = 0; colour < 8; colour++) {
            cote.begin(1, 1);
            cote.setColour(1, 0, colour);
            CHECK.due("15: the place 0 has the highest bits", cote.form(1), sized(1) | (long) colour << 49);
        }
        cote.begin(2, 8);
        colourAll(cote, 2, "76543210");
        CHECK.due("15: eight colours", cote.form(2), sized(8) | 001234567L << 28);
        cote.begin(2, 8);
        colourAll(cote, 2, "77707777");
        CHECK.due("15: the least colour comes first", cote.form(2), sized(8) | 007777777L << 28);
    }

    private static void leastAndGreatestForms() {
        CanonCote cote = new CanonCote();
        cote.begin(0, 1);
        CHECK.due("15: the least of all", cote.form(0), 0x10000000000000L);
        cote.begin(0, 8);
        cote.complement(0);
        colourAll(cote, 0, "77777777");
        CHECK.due("15: the greatest of all", cote.form(0), 0x8FFFFFFFFFFFFFL);
    }

    // ---- Terms: alike

    private static void mapsOfAlikeGraphs() {
        CanonCote cote = new CanonCote();
        cote.begin(1, 3);
        CHECK.due("17: not of the same size", cote.areAlike(0, 1), false);
        Shapes.path(cote, 0, 3);
        Shapes.cycle(cote, 1, 3);
        CHECK.due("17: edges are kept, missing ones not", cote.areAlike(0, 1), false);
        CHECK.due("17: missing ones are kept, edges not", cote.areAlike(1, 0), false);
        Shapes.path(cote, 0, 4);
        Shapes.build(cote, 1, 4, "01 02 03");
        CHECK.due("17: as many edges", cote.areAlike(0, 1), false);
        cote.begin(0, 1);
        cote.begin(1, 1);
        CHECK.due("17: one vertex each", cote.areAlike(0, 1), true);
        cote.setColour(0, 0, 7);
        CHECK.due("17: of different colours", cote.areAlike(0, 1), false);
        cote.setColour(1, 0, 7);
        CHECK.due("17: of one colour", cote.areAlike(0, 1), true);
        cote.begin(0, 8);
        cote.begin(1, 8);
        CHECK.due("17: no edges", cote.areAlike(0, 1), true);
        cote.complement(0);
        CHECK.due("17: all and none", cote.areAlike(0, 1), false);
        cote.complement(1);
        CHECK.due("17: all edges", cote.areAlike(0, 1), true);
        cote.toggle(0, 6, 7);
        CHECK.due("17: one missing", cote.areAlike(0, 1), false);
        cote.toggle(1, 0, 1);
        CHECK.due("17: another one missing", cote.areAlike(0, 1), true);
    }

    // ---- Terms: permutations

    private static void generatorsAtFirst() {
        CanonCote cote = new CanonCote();
        CHECK.due("Terms: the one that moves nothing is in", cote.isInGroup(IDENTITY), true);
        CHECK.due("25: and it is alone", cote.order(), 1);
        CHECK.due("26: no other one is in", cote.isInGroup(FIRST_TWO), false);
        CHECK.due("24: no generators at first", cote.forgetGenerators(), 0);
    }

    private static void imagesInPermutations() {
        CanonCote cote = new CanonCote();
        cote.addGenerator(FIRST_TWO);
        CHECK.due("Terms: the lowest bits are of the point 0", cote.moves(0), 3);
        CHECK.due("27: the last point stays", cote.moves(7), 128);
        cote.forgetGenerators();
        cote.addGenerator(LAST_TWO);
        CHECK.due("Terms: the highest bits are of the point 7", cote.moves(7), 192);
        CHECK.due("27: the first point stays", cote.moves(0), 1);
        cote.forgetGenerators();
        CHECK.due("23: the least number of all", cote.addGenerator(0x01234567L), 2);
        CHECK.due("23: the greatest number of all", cote.addGenerator(IDENTITY), 2);
        CHECK.due("26: the least number of all", cote.isInGroup(0x01234567L), true);
        CHECK.due("26: the greatest number of all", cote.isInGroup(IDENTITY), true);
    }

    /** A circle of five points and one of three: fifteen times until all points are back. */
    private static void anyNumberOfTimes() {
        CanonCote cote = new CanonCote();
        int[] images = {1, 2, 3, 4, 0, 6, 7, 5};
        int[] reached = {0, 1, 2, 3, 4, 5, 6, 7};
        long generator = 0x57604321L;
        CHECK.due("23: fifteen", cote.addGenerator(generator), 15);
        for (int times = 1; times <= 15; times++) {
            long power = 0;
            for (int point = 0; point < 8; point++) {
                reached[point] = images[reached[point]];
                power |= (long) reached[point] << 4 * point;
            }
            CHECK.due("26: " + times + " times", cote.isInGroup(power), true);
            CHECK.due("26: back after fifteen", power == IDENTITY, times == 15);
        }
        CHECK.due("26: two of its points exchanged", cote.isInGroup(FIRST_TWO), false);
    }

    // ---- promises 2 to 7

    private static void beginAgain() {
        CanonCote cote = new CanonCote();
        for (int before = 1; before <= 8; before++) {
            for (int size = 1; size <= 8; size++) {
                cote.begin(0, before);
                cote.complement(0);
                cote.setColour(0, before - 1, 7);
                CHECK.due("2: size that it had", cote.begin(0, size), before);
                CHECK.due("2: size", cote.size(0), size);
                CHECK.due("2: no edges", cote.edges(0), 0);
                CHECK.due("2: no colours", cote.form(0), sized(size));
            }
        }
        cote = new CanonCote();
        cote.begin(0, 8);
        cote.complement(0);
        colourAll(cote, 0, "77777777");
        cote.begin(0, 1);
        cote.begin(0, 8);
        for (int vertex = 0; vertex < 8; vertex++) {
            CHECK.due("2: no neighbours of old", cote.neighbours(0, vertex), 0);
            CHECK.due("2: no colour of old", cote.colour(0, vertex), 0);
        }
    }

    private static void swapTwice() {
        CanonCote cote = new CanonCote();
        Shapes.build(cote, 0, 8, "07 01 12 73");
        colourAll(cote, 0, "10000002");
        cote.swap(0, 0, 7);
        CHECK.due("5: the first one's neighbours", cote.neighbours(0, 0), 1 << 7 | 1 << 3);
        CHECK.due("5: the last one's neighbours", cote.neighbours(0, 7), 1 << 0 | 1 << 1);
        CHECK.due("5: a third one's neighbours", cote.neighbours(0, 1), 1 << 7 | 1 << 2);
        CHECK.due("5: the first one's colour", cote.colour(0, 0), 2);
        CHECK.due("5: the last one's colour", cote.colour(0, 7), 1);
        cote.swap(0, 7, 0);
        CHECK.due("5: back", cote.neighbours(0, 0), 1 << 7 | 1 << 1);
        CHECK.due("5: back, the third one", cote.neighbours(0, 1), 1 << 0 | 1 << 2);
        CHECK.due("5: back, the colour", cote.colour(0, 0), 1);
        for (int vertex : new int[] {0, 3, 7}) {
            List<Long> before = Snapshot.of(cote);
            cote.swap(0, vertex, vertex);
            CHECK.due("5: with itself", Snapshot.of(cote).equals(before), true);
        }
        cote.begin(1, 1);
        cote.setColour(1, 0, 6);
        cote.swap(1, 0, 0);
        CHECK.due("5: the only vertex", cote.colour(1, 0), 6);
    }

    private static void copyOverOthers() {
        for (int from = 1; from <= 8; from++) {
            for (int to = 1; to <= 8; to++) {
                CanonCote cote = new CanonCote();
                cote.begin(0, from);
                cote.setColour(0, from - 1, 5);
                cote.begin(3, to);
                cote.complement(3);
                cote.setColour(3, 0, 7);
                cote.copy(0, 3);
                String name = "6: size " + from + " onto " + to;
                CHECK.due(name, cote.size(3), from);
                CHECK.due(name + ", no edges of old", cote.edges(3), 0);
                CHECK.due(name + ", colours", cote.form(3), sized(from) | 5L << 52 - 3 * from);
                CHECK.due(name + ", the model", cote.size(0), from);
            }
        }
        CanonCote cote = new CanonCote();
        for (int graph = 0; graph < 4; graph++) {
            Shapes.build(cote, graph, 5, "01 34");
            cote.setColour(graph, 4, 3);
            cote.copy(graph, graph);
            CHECK.due("6: onto itself, size", cote.size(graph), 5);
            CHECK.due("6: onto itself, edges", cote.edges(graph), 2);
            CHECK.due("6: onto itself, colour", cote.colour(graph, 4), 3);
        }
    }

    private static void complementTwice() {
        CanonCote cote = new CanonCote();
        for (int size = 1; size <= 8; size++) {
            int all = size * (size - 1) / 2;
            cote.begin(0, size);
            cote.setColour(0, size - 1, 4);
            CHECK.due("7: of none, " + size, cote.complement(0), all);
            CHECK.due("9: all, " + size, cote.edges(0), all);
            CHECK.due("10: not itself, " + size, cote.neighbours(0, size - 1), (1 << size - 1) - 1);
            CHECK.due("7: of all, " + size, cote.complement(0), 0);
            CHECK.due("10: none, " + size, cote.neighbours(0, size - 1), 0);
            CHECK.due("7: the colour stays, " + size, cote.colour(0, size - 1), 4);
        }
        Shapes.path(cote, 1, 8);
        CHECK.due("7: of some", cote.complement(1), 21);
        CHECK.due("7: and back", cote.complement(1), 7);
    }

    // ---- promises 16 to 22

    /** All arrangements have one code, so each vertex in turn gets the lowest place that is left. */
    private static void placesOfSeveral() {
        CanonCote cote = new CanonCote();
        for (int size = 1; size <= 8; size++) {
            cote.begin(0, size);
            for (int all = 0; all < 2; all++) {
                for (int vertex = 0; vertex < size; vertex++) {
                    CHECK.due("16: place in size " + size, cote.placeOf(0, vertex), vertex);
                }
                cote.complement(0);
            }
        }
        // The least code has edges between the places 0 and 7, 1 and 6, 2 and 5, 3 and 4.
        Shapes.build(cote, 1, 8, "01 23 45 67");
        String due = "07162534";
        for (int vertex = 0; vertex < 8; vertex++) {
            CHECK.due("16: places of four edges", cote.placeOf(1, vertex), due.charAt(vertex) - '0');
        }
    }

    private static void imagesAndNone() {
        CanonCote cote = new CanonCote();
        for (int size = 1; size <= 8; size++) {
            cote.begin(0, size);
            cote.begin(1, size);
            for (int vertex = 0; vertex < size; vertex++) {
                CHECK.due("18: the lowest in turn, " + size, cote.image(0, 1, vertex), vertex);
            }
            cote.setColour(1, size - 1, 1);
            CHECK.due("18: no map, " + size, cote.image(0, 1, 0), CanonCote.NONE);
            cote.setColour(0, 0, 1);
            CHECK.due("18: the first one onto the last one", cote.image(0, 1, 0), size - 1);
            CHECK.due("18: the last one", cote.image(0, 1, size - 1), size > 1 ? size - 2 : 0);
        }
        cote.begin(2, 1);
        for (int vertex = 0; vertex < 8; vertex++) {
            CHECK.due("18: the other one is too small", cote.image(0, 2, vertex), CanonCote.NONE);
        }
        CHECK.due("18: the other one is too large", cote.image(2, 0, 0), CanonCote.NONE);
        CHECK.throwsIndex("18: only the other one has it", () -> cote.image(2, 0, 1));
    }

    private static void copiesOfSizes() {
        CanonCote cote = new CanonCote();
        int[] ways = {8, 28, 56, 70, 56, 28, 8, 1};
        for (int size = 1; size <= 8; size++) {
            cote.begin(0, size);
            cote.begin(1, 8);
            CHECK.due("19: without edges, " + size, cote.copies(0, 1), ways[size - 1]);
            CHECK.due("19: too large, " + size, cote.copies(1, 0), size == 8 ? 1 : 0);
            CHECK.due("19: itself, " + size, cote.copies(0, 0), 1);
            cote.complement(1);
            CHECK.due("19: in all edges, " + size, cote.copies(0, 1), size == 1 ? 8 : 0);
            cote.complement(0);
            CHECK.due("19: all edges, " + size, cote.copies(0, 1), ways[size - 1]);
        }
        cote.begin(2, 1);
        cote.begin(3, 1);
        CHECK.due("19: one in one", cote.copies(2, 3), 1);
        cote.setColour(2, 0, 7);
        CHECK.due("19: of another colour", cote.copies(2, 3), 0);
        colourAll(cote, 1, "07770777");
        CHECK.due("19: as many as have the colour", cote.copies(2, 1), 6);
    }

    private static void fewestAndMostSymmetries() {
        CanonCote cote = new CanonCote();
        int most = 1;
        for (int size = 1; size <= 8; size++) {
            most *= size;
            cote.begin(0, size);
            CHECK.due("20: most of size " + size, cote.symmetries(0), most);
            CHECK.due("21: one orbit", cote.orbits(0), 1);
            CHECK.due("22: all in it", cote.orbit(0, size - 1), (1 << size) - 1);
            colourAll(cote, 0, "02461357".substring(0, size));
            CHECK.due("20: fewest of size " + size, cote.symmetries(0), 1);
            CHECK.due("21: an orbit for each", cote.orbits(0), size);
            CHECK.due("22: itself alone", cote.orbit(0, size - 1), 1 << size - 1);
        }
        Shapes.path(cote, 1, 8);
        cote.toggle(1, 1, 3);
        CHECK.due("20: none but one, without colours", cote.symmetries(1), 1);
        CHECK.due("21: eight orbits without colours", cote.orbits(1), 8);
    }

    // ---- promises 23 to 28

    private static void fullAndForgotten() {
        CanonCote cote = new CanonCote();
        long[] neighboursExchanged = {0x76543201L, 0x76543120L, 0x76542310L, 0x76534210L, 0x76453210L, 0x75643210L};
        int order = 1;
        for (int count = 1; count <= 6; count++) {
            order *= count + 1;
            CHECK.due("23: generator " + count, cote.addGenerator(neighboursExchanged[count - 1]), order);
        }
        CHECK.throwsState("23: the seventh would make a larger group", () -> cote.addGenerator(LAST_TWO));
        CHECK.due("25: it didn't", cote.order(), 5040);
        CHECK.due("26: it isn't in", cote.isInGroup(LAST_TWO), false);
        CHECK.due("24: full", cote.forgetGenerators(), 6);
        CHECK.due("24: empty", cote.forgetGenerators(), 0);
        CHECK.due("25: empty", cote.order(), 1);
        CHECK.due("26: empty", cote.isInGroup(FIRST_TWO), false);
        for (int count = 1; count <= 6; count++) {
            CHECK.due("23: the one that moves nothing counts", cote.addGenerator(IDENTITY), 1);
        }
        CHECK.throwsState("23: and there is no room", () -> cote.addGenerator(IDENTITY));
        CHECK.due("24: full again", cote.forgetGenerators(), 6);
        CHECK.due("23: room again", cote.addGenerator(ROUND), 8);
    }

    private static void membersOfGroups() {
        CanonCote cote = new CanonCote();
        cote.addGenerator(0x76543102L);
        cote.addGenerator(0x17654320L);
        CHECK.due("25: even ones", cote.order(), 20160);
        CHECK.due("26: one exchange is not even", cote.isInGroup(FIRST_TWO), false);
        CHECK.due("26: two exchanges are even", cote.isInGroup(0x67543201L), true);
        CHECK.due("26: a circle of eight is not even", cote.isInGroup(ROUND), false);
        CHECK.due("28: even ones that leave a point", cote.fixing(128), 2520);
        CHECK.due("28: even ones that leave all but three", cote.fixing(31), 3);
        CHECK.due("28: even ones that leave all but two", cote.fixing(63), 1);
        CHECK.due("23: all", cote.addGenerator(FIRST_TWO), 40320);
        CHECK.due("26: now each one is in", cote.isInGroup(ROUND), true);
        CHECK.due("28: that leave all but two", cote.fixing(63), 2);
    }

    private static void movedAndFixed() {
        CanonCote cote = new CanonCote();
        for (int point = 0; point < 8; point++) {
            CHECK.due("27: without generators", cote.moves(point), 1 << point);
            CHECK.due("28: without generators", cote.fixing(1 << point), 1);
        }
        cote.addGenerator(0x76543102L);
        cote.addGenerator(0x56743210L);
        CHECK.due("28: no points", cote.fixing(0), 6);
        CHECK.due("28: all points", cote.fixing(255), 1);
        CHECK.due("28: points that no one moves", cote.fixing(0b01011000), 6);
        CHECK.due("28: a point of the circle", cote.fixing(1), 2);
        CHECK.due("28: the point 7", cote.fixing(128), 3);
        CHECK.due("28: both", cote.fixing(129), 1);
        int[] due = {7, 7, 7, 8, 16, 160, 64, 160};
        for (int point = 0; point < 8; point++) {
            CHECK.due("27: point " + point, cote.moves(point), due[point]);
        }
        cote.forgetGenerators();
        cote.addGenerator(ROUND);
        CHECK.due("27: all points from the first one", cote.moves(0), 255);
        CHECK.due("27: all points from the last one", cote.moves(7), 255);
        CHECK.due("28: no one leaves the point 0", cote.fixing(1), 1);
        CHECK.due("28: no points, a circle", cote.fixing(0), 8);
    }
}
