import java.util.List;
import java.util.function.Consumer;

/**
 * Each call that has to be refused, with every kind of wrong number in every position: it throws
 * what the document says, the exception named first if several apply, and changes nothing.
 */
final class RefusedCallsTest {
    private static final Check CHECK = new Check("RefusedCallsTest");
    private static final Class<?> INDEX = IndexOutOfBoundsException.class;
    private static final Class<?> ARGUMENT = IllegalArgumentException.class;
    private static final Class<?> STATE = IllegalStateException.class;

    // Beside the next ones on both sides those that a mask, a shift or a remainder takes for right.
    private static final int[] NO_GRAPHS = {-1, 4, -4, 5, 8, 32, 256, 1 << 30, Integer.MIN_VALUE, Integer.MAX_VALUE};
    private static final int[] NO_VERTICES = {-1, 8, 9, -8, 16, 32, 33, 64, 256, Integer.MIN_VALUE, Integer.MAX_VALUE};
    private static final int[] NO_SIZES = {0, 9, -1, -8, 16, 17, 257, Integer.MIN_VALUE, Integer.MAX_VALUE};
    private static final int[] NO_COLOURS = {-1, 8, 9, -7, 15, 16, 256, Integer.MIN_VALUE, Integer.MAX_VALUE};
    private static final int[] NO_POINTS = {-1, 8, 9, -8, 15, 16, 32, 64, 256, Integer.MIN_VALUE, Integer.MAX_VALUE};
    private static final int[] NO_SETS = {-1, 256, 257, -256, 511, 512, 65536, Integer.MIN_VALUE, Integer.MAX_VALUE};

    private static final long IDENTITY = 0x76543210L;
    private static final long ROUND = 0x07654321L;
    private static final int[] SIZES = {8, 1, 5, 4};

    public static void main(String[] args) {
        for (int none : NO_GRAPHS) {
            graphs(none);
        }
        for (int graph = 0; graph < SIZES.length; graph++) {
            vertices(graph, SIZES[graph]);
            for (int none : NO_VERTICES) {
                vertices(graph, none);
            }
        }
        sizes();
        sameVertices();
        colours();
        permutations();
        fullOfGenerators();
        points();
        CHECK.end();
    }

    /** A graph that is full, one of one vertex, some colours, and three generators. */
    private static CanonCote built() {
        CanonCote cote = new CanonCote();
        cote.begin(0, 8);
        cote.complement(0);
        cote.setColour(0, 7, 7);
        cote.begin(1, 1);
        cote.setColour(1, 0, 3);
        Shapes.build(cote, 2, 5, "01 12 24 34");
        cote.setColour(2, 4, 1);
        cote.toggle(3, 0, 3);
        cote.addGenerator(0x76543120L);
        cote.addGenerator(0x45673210L);
        cote.addGenerator(IDENTITY);
        return cote;
    }

    private static void refused(String call, Class<?> due, Consumer<CanonCote> calling) {
        refused(call, due, calling, 0);
    }

    private static void refused(String call, Class<?> due, Consumer<CanonCote> calling, int moreGenerators) {
        CanonCote cote = built();
        for (int more = 0; more < moreGenerators; more++) {
            cote.addGenerator(IDENTITY);
        }
        List<Long> before = Snapshot.of(cote);
        CHECK.throwsExactly(call, () -> calling.accept(cote), due);
        CHECK.due(call + " changed nothing", Snapshot.of(cote).equals(before), true);
        CHECK.due(call + " left the generators", cote.forgetGenerators(), 3 + moreGenerators);
    }

    private static void graphs(int none) {
        String name = "graph " + none + " ";
        // What stands behind the graph is right, then wrong as well: the index is named first.
        for (int size : new int[] {1, 8, 0, 9, -1}) {
            refused("2: " + name + size, INDEX, cote -> cote.begin(none, size));
        }
        for (int vertex : new int[] {0, 3, 8, -1}) {
            refused("3: " + name + vertex, INDEX, cote -> cote.toggle(none, vertex, 1));
            refused("3: " + name + "twice " + vertex, INDEX, cote -> cote.toggle(none, vertex, vertex));
            refused("4: " + name + vertex, INDEX, cote -> cote.setColour(none, vertex, 1));
            refused("4: " + name + vertex + " colour 8", INDEX, cote -> cote.setColour(none, vertex, 8));
            refused("5: " + name + vertex, INDEX, cote -> cote.swap(none, vertex, 0));
            refused("5: " + name + "twice " + vertex, INDEX, cote -> cote.swap(none, vertex, vertex));
            refused("10: " + name + vertex, INDEX, cote -> cote.neighbours(none, vertex));
            refused("11: " + name + vertex, INDEX, cote -> cote.colour(none, vertex));
            refused("13: " + name + vertex, INDEX, cote -> cote.classOf(none, vertex));
            refused("16: " + name + vertex, INDEX, cote -> cote.placeOf(none, vertex));
            refused("22: " + name + vertex, INDEX, cote -> cote.orbit(none, vertex));
            refused("18: " + name + vertex, INDEX, cote -> cote.image(none, 0, vertex));
            refused("18: other " + name + vertex, INDEX, cote -> cote.image(0, none, vertex));
        }
        refused("6: from " + name, INDEX, cote -> cote.copy(none, 0));
        refused("6: to " + name, INDEX, cote -> cote.copy(0, none));
        refused("6: both " + name, INDEX, cote -> cote.copy(none, none));
        refused("7: " + name, INDEX, cote -> cote.complement(none));
        refused("8: " + name, INDEX, cote -> cote.size(none));
        refused("9: " + name, INDEX, cote -> cote.edges(none));
        refused("12: " + name, INDEX, cote -> cote.classes(none));
        refused("14: " + name, INDEX, cote -> cote.rounds(none));
        refused("15: " + name, INDEX, cote -> cote.form(none));
        refused("17: " + name, INDEX, cote -> cote.areAlike(none, 0));
        refused("17: other " + name, INDEX, cote -> cote.areAlike(0, none));
        refused("17: both " + name, INDEX, cote -> cote.areAlike(none, none));
        refused("18: both " + name, INDEX, cote -> cote.image(none, none, 0));
        refused("19: small " + name, INDEX, cote -> cote.copies(none, 0));
        refused("19: large " + name, INDEX, cote -> cote.copies(0, none));
        refused("19: both " + name, INDEX, cote -> cote.copies(none, none));
        refused("20: " + name, INDEX, cote -> cote.symmetries(none));
        refused("21: " + name, INDEX, cote -> cote.orbits(none));
    }

    private static void vertices(int graph, int none) {
        String name = "graph " + graph + ", vertex " + none + " ";
        int last = SIZES[graph] - 1;
        refused("3: " + name, INDEX, cote -> cote.toggle(graph, none, last));
        refused("3: other, " + name, INDEX, cote -> cote.toggle(graph, last, none));
        refused("3: both, " + name, INDEX, cote -> cote.toggle(graph, none, none));
        refused("4: " + name, INDEX, cote -> cote.setColour(graph, none, 1));
        refused("4: wrong colour, " + name, INDEX, cote -> cote.setColour(graph, none, 8));
        refused("4: colour below, " + name, INDEX, cote -> cote.setColour(graph, none, -1));
        refused("5: " + name, INDEX, cote -> cote.swap(graph, none, last));
        refused("5: other, " + name, INDEX, cote -> cote.swap(graph, last, none));
        refused("5: both, " + name, INDEX, cote -> cote.swap(graph, none, none));
        refused("10: " + name, INDEX, cote -> cote.neighbours(graph, none));
        refused("11: " + name, INDEX, cote -> cote.colour(graph, none));
        refused("13: " + name, INDEX, cote -> cote.classOf(graph, none));
        refused("16: " + name, INDEX, cote -> cote.placeOf(graph, none));
        refused("22: " + name, INDEX, cote -> cote.orbit(graph, none));
        // Also if the other graph is not alike: the vertex is looked at ahead of the answer NONE.
        for (int other = 0; other < SIZES.length; other++) {
            int onto = other;
            refused("18: onto " + other + ", " + name, INDEX, cote -> cote.image(graph, onto, none));
        }
    }

    private static void sizes() {
        for (int graph = 0; graph < SIZES.length; graph++) {
            int g = graph;
            for (int wrong : NO_SIZES) {
                refused("2: size " + wrong, ARGUMENT, cote -> cote.begin(g, wrong));
            }
        }
    }

    private static void sameVertices() {
        for (int graph = 0; graph < SIZES.length; graph++) {
            int g = graph;
            for (int vertex = 0; vertex < SIZES[graph]; vertex++) {
                int v = vertex;
                refused("3: twice " + vertex, ARGUMENT, cote -> cote.toggle(g, v, v));
            }
        }
    }

    private static void colours() {
        for (int wrong : NO_COLOURS) {
            refused("4: colour " + wrong, ARGUMENT, cote -> cote.setColour(0, 7, wrong));
            refused("4: colour of the only vertex " + wrong, ARGUMENT, cote -> cote.setColour(1, 0, wrong));
        }
    }

    private static void noPermutation(long number) {
        String name = Long.toHexString(number);
        refused("23: " + name, ARGUMENT, cote -> cote.addGenerator(number));
        refused("23: six, and " + name, ARGUMENT, cote -> cote.addGenerator(number), 3);
        refused("26: " + name, ARGUMENT, cote -> cote.isInGroup(number));
    }

    private static void permutations() {
        for (long number : new long[] {0, -1, 1, 0x654321L, 0x87654321L, Long.MIN_VALUE, Long.MAX_VALUE}) {
            noPermutation(number);
        }
        // The lowest 32 bits tell a permutation, but a bit above them is set.
        for (int bit = 32; bit < 64; bit++) {
            noPermutation(IDENTITY | 1L << bit);
            noPermutation(ROUND | 1L << bit);
        }
        noPermutation(IDENTITY | -1L << 32);
        noPermutation(IDENTITY << 32);
        noPermutation(IDENTITY << 32 | IDENTITY);
        // The image of one point is 8 to 15, but its three low bits alone would be right.
        for (int point = 0; point < 8; point++) {
            noPermutation(IDENTITY | 8L << 4 * point);
            noPermutation(ROUND | 8L << 4 * point);
        }
        // Two points have one image.
        for (int point = 0; point < 8; point++) {
            for (int other = 0; other < point; other++) {
                noPermutation(IDENTITY & ~(15L << 4 * point) | (long) other << 4 * point);
            }
        }
        for (long image = 0; image < 16; image++) {
            noPermutation(image * 0x11111111L);
        }
    }

    private static void fullOfGenerators() {
        for (long number : new long[] {IDENTITY, ROUND, 0x76543120L, 0x01234567L}) {
            refused("23: the seventh " + Long.toHexString(number), STATE, cote -> cote.addGenerator(number), 3);
        }
    }

    private static void points() {
        for (int wrong : NO_POINTS) {
            refused("27: point " + wrong, INDEX, cote -> cote.moves(wrong));
        }
        for (int wrong : NO_SETS) {
            refused("28: points " + wrong, ARGUMENT, cote -> cote.fixing(wrong));
        }
    }
}
