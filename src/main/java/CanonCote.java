import java.util.Arrays;

/**
 * A library of small graphs and of groups of permutations; the document of the project tells, as
 * numbered promises, what each call does.
 */
public final class CanonCote {
    /** There is none. */
    public static final int NONE = -1;

    private static final int GRAPHS = 4;
    private static final int FIRST_SIZE = 4;
    private static final int MOST_VERTICES = 8;
    private static final int COLOURS = 8;
    private static final int POINTS = 8;
    private static final int ALL_POINTS = (1 << POINTS) - 1;
    private static final int MOST_GENERATORS = 6;

    private final Graph[] graphs;
    private final Graph chosen;
    private final Refinement refinement;
    private final Arranging arranging;
    private final Mapping mapping;
    private final Group group;

    public CanonCote() {
        graphs = new Graph[GRAPHS];
        for (int graph = 0; graph < GRAPHS; graph++) {
            graphs[graph] = new Graph();
        }
        chosen = new Graph();
        refinement = new Refinement();
        arranging = new Arranging();
        mapping = new Mapping();
        group = new Group();
    }

    // ---- graphs

    public int begin(int graph, int size) throws IndexOutOfBoundsException, IllegalArgumentException {
        Graph begun = graphAt(graph);
        if (size < 1 || size > MOST_VERTICES) {
            throw new IllegalArgumentException("size is out of range");
        }
        int before = begun.size;
        begun.clear(size);
        return before;
    }

    public boolean toggle(int graph, int vertex, int other)
            throws IndexOutOfBoundsException, IllegalArgumentException {
        Graph changed = graphAt(graph);
        checkVertex(changed, vertex);
        checkVertex(changed, other);
        if (vertex == other) {
            throw new IllegalArgumentException("both vertices are the same");
        }
        changed.flipEdge(vertex, other);
        return changed.hasEdge(vertex, other);
    }

    public int setColour(int graph, int vertex, int colour)
            throws IndexOutOfBoundsException, IllegalArgumentException {
        Graph changed = graphAt(graph);
        checkVertex(changed, vertex);
        if (colour < 0 || colour >= COLOURS) {
            throw new IllegalArgumentException("colour is out of range");
        }
        int before = changed.colours[vertex];
        changed.colours[vertex] = colour;
        return before;
    }

    public void swap(int graph, int vertex, int other) throws IndexOutOfBoundsException {
        Graph changed = graphAt(graph);
        checkVertex(changed, vertex);
        checkVertex(changed, other);
        changed.exchange(vertex, other);
    }

    public void copy(int from, int to) throws IndexOutOfBoundsException {
        Graph model = graphAt(from);
        graphAt(to).become(model);
    }

    public int complement(int graph) throws IndexOutOfBoundsException {
        Graph changed = graphAt(graph);
        changed.invertEdges();
        return changed.countEdges();
    }

    public int size(int graph) throws IndexOutOfBoundsException {
        return graphAt(graph).size;
    }

    public int edges(int graph) throws IndexOutOfBoundsException {
        return graphAt(graph).countEdges();
    }

    public int neighbours(int graph, int vertex) throws IndexOutOfBoundsException {
        Graph asked = graphAt(graph);
        checkVertex(asked, vertex);
        return asked.near[vertex];
    }

    public int colour(int graph, int vertex) throws IndexOutOfBoundsException {
        Graph asked = graphAt(graph);
        checkVertex(asked, vertex);
        return asked.colours[vertex];
    }

    // ---- refinement

    public int classes(int graph) throws IndexOutOfBoundsException {
        refinement.refine(graphAt(graph));
        return refinement.count;
    }

    public int classOf(int graph, int vertex) throws IndexOutOfBoundsException {
        Graph asked = graphAt(graph);
        checkVertex(asked, vertex);
        refinement.refine(asked);
        return refinement.numbers[vertex];
    }

    public int rounds(int graph) throws IndexOutOfBoundsException {
        refinement.refine(graphAt(graph));
        return refinement.lastRound;
    }

    // ---- forms, and graphs that are alike

    public long form(int graph) throws IndexOutOfBoundsException {
        return leastCode(graphAt(graph));
    }

    public int placeOf(int graph, int vertex) throws IndexOutOfBoundsException {
        Graph asked = graphAt(graph);
        checkVertex(asked, vertex);
        arranging.search(asked);
        return arranging.bestPlace(vertex);
    }

    public boolean areAlike(int graph, int other) throws IndexOutOfBoundsException {
        Graph one = graphAt(graph);
        return haveOneForm(one, graphAt(other));
    }

    public int image(int graph, int other, int vertex) throws IndexOutOfBoundsException {
        Graph mapped = graphAt(graph);
        Graph onto = graphAt(other);
        checkVertex(mapped, vertex);
        if (haveOneForm(mapped, onto) && mapping.find(mapped, onto)) {
            return mapping.images[vertex];
        }
        return NONE;
    }

    public int copies(int small, int large) throws IndexOutOfBoundsException {
        Graph wanted = graphAt(small);
        Graph whole = graphAt(large);
        long wantedCode = leastCode(wanted);
        int found = 0;
        for (int vertices = 1; vertices < 1 << whole.size; vertices++) {
            if (Integer.bitCount(vertices) == wanted.size) {
                chosen.becomePart(whole, vertices);
                // Most parts fall at this count, and it is far cheaper than a form.
                if (chosen.countEdges() == wanted.countEdges() && leastCode(chosen) == wantedCode) {
                    found++;
                }
            }
        }
        return found;
    }

    // ---- symmetries

    public int symmetries(int graph) throws IndexOutOfBoundsException {
        Graph asked = graphAt(graph);
        arranging.search(asked);
        return arranging.countBest(asked.size);
    }

    public int orbits(int graph) throws IndexOutOfBoundsException {
        Graph asked = graphAt(graph);
        arranging.search(asked);
        int lowest = 0;
        for (int vertex = 0; vertex < asked.size; vertex++) {
            if ((arranging.exchangeable(vertex) & below(vertex)) == 0) {
                lowest++;
            }
        }
        return lowest;
    }

    public int orbit(int graph, int vertex) throws IndexOutOfBoundsException {
        Graph asked = graphAt(graph);
        checkVertex(asked, vertex);
        arranging.search(asked);
        return arranging.exchangeable(vertex);
    }

    // ---- groups of permutations

    public int addGenerator(long permutation) throws IllegalArgumentException, IllegalStateException {
        checkPermutation(permutation);
        if (group.count >= MOST_GENERATORS) {
            throw new IllegalStateException("there are 6 generators");
        }
        group.add(permutation);
        return group.chain.members;
    }

    public int forgetGenerators() {
        int before = group.count;
        group.clear();
        return before;
    }

    public int order() {
        return group.chain.members;
    }

    public boolean isInGroup(long permutation) throws IllegalArgumentException {
        checkPermutation(permutation);
        return group.chain.holds(permutation);
    }

    public int moves(int point) throws IndexOutOfBoundsException {
        if (point < 0 || point >= POINTS) {
            throw new IndexOutOfBoundsException("no such point");
        }
        return group.reach(point);
    }

    public int fixing(int points) throws IllegalArgumentException {
        if (points < 0 || points > ALL_POINTS) {
            throw new IllegalArgumentException("points is out of range");
        }
        return group.countFixing(points);
    }

    private Graph graphAt(int graph) {
        if (graph < 0 || graph >= GRAPHS) {
            throw new IndexOutOfBoundsException("no such graph");
        }
        return graphs[graph];
    }

    private static void checkVertex(Graph graph, int vertex) {
        if (vertex < 0 || vertex >= graph.size) {
            throw new IndexOutOfBoundsException("no such vertex");
        }
    }

    private static void checkPermutation(long number) {
        if (!Permutation.isOne(number)) {
            throw new IllegalArgumentException("no permutation");
        }
    }

    private long leastCode(Graph graph) {
        arranging.search(graph);
        return arranging.leastCode(graph);
    }

    private boolean haveOneForm(Graph one, Graph other) {
        return leastCode(one) == leastCode(other);
    }

    /** The mask of all numbers below one. */
    private static int below(int number) {
        return (1 << number) - 1;
    }

    private static boolean isIn(int mask, int number) {
        return (mask >> number & 1) != 0;
    }

    private static final class Graph {
        private int size;
        private final int[] near;
        private final int[] colours;

        private Graph() {
            size = FIRST_SIZE;
            near = new int[MOST_VERTICES];
            colours = new int[MOST_VERTICES];
        }

        private void clear(int newSize) {
            size = newSize;
            Arrays.fill(near, 0);
            Arrays.fill(colours, 0);
        }

        private boolean hasEdge(int vertex, int other) {
            return isIn(near[vertex], other);
        }

        private void flipEdge(int vertex, int other) {
            near[vertex] ^= 1 << other;
            near[other] ^= 1 << vertex;
        }

        private void exchange(int vertex, int other) {
            int colourKept = colours[vertex];
            colours[vertex] = colours[other];
            colours[other] = colourKept;
            int nearKept = near[vertex];
            near[vertex] = near[other];
            near[other] = nearKept;
            for (int each = 0; each < size; each++) {
                if (isIn(near[each], vertex) != isIn(near[each], other)) {
                    near[each] ^= 1 << vertex | 1 << other;
                }
            }
        }

        private void become(Graph model) {
            size = model.size;
            for (int vertex = 0; vertex < MOST_VERTICES; vertex++) {
                near[vertex] = model.near[vertex];
                colours[vertex] = model.colours[vertex];
            }
        }

        private void invertEdges() {
            for (int vertex = 0; vertex < size; vertex++) {
                near[vertex] ^= below(size) & ~(1 << vertex);
            }
        }

        private int countEdges() {
            int ends = 0;
            for (int vertex = 0; vertex < size; vertex++) {
                ends += Integer.bitCount(near[vertex]);
            }
            return ends / 2;
        }

        /** Whether a symmetry exchanges two vertices and leaves all others where they are. */
        private boolean areTwins(int vertex, int other) {
            int both = 1 << vertex | 1 << other;
            return colours[vertex] == colours[other] && (near[vertex] | both) == (near[other] | both);
        }

        /** Takes over some vertices of a graph, numbered anew in their order, and their edges. */
        private void becomePart(Graph whole, int vertices) {
            size = 0;
            for (int vertex = 0; vertex < whole.size; vertex++) {
                if (isIn(vertices, vertex)) {
                    colours[size] = whole.colours[vertex];
                    near[size] = squeeze(whole.near[vertex], vertices);
                    size++;
                }
            }
        }

        private static int squeeze(int bits, int kept) {
            int squeezed = 0;
            int next = 0;
            for (int bit = 0; bit < MOST_VERTICES; bit++) {
                if (isIn(kept, bit)) {
                    squeezed |= (bits >> bit & 1) << next;
                    next++;
                }
            }
            return squeezed;
        }
    }

    /** Puts the vertices of a graph into classes, round by round. */
    private static final class Refinement {
        private static final int BITS_OF_A_NUMBER = 4;

        private int count;
        private int lastRound;
        private final int[] numbers;
        private final int[] members;
        private final long[] keys;

        private Refinement() {
            numbers = new int[MOST_VERTICES];
            members = new int[MOST_VERTICES];
            keys = new long[MOST_VERTICES];
        }

        private void refine(Graph graph) {
            for (int vertex = 0; vertex < graph.size; vertex++) {
                keys[vertex] = graph.colours[vertex];
            }
            numberByKeys(graph.size);
            int before = 0;
            // Each round but the last brings a class more, so there are no more rounds than vertices.
            for (int round = 1; round <= MOST_VERTICES && before < count; round++) {
                before = count;
                for (int vertex = 0; vertex < graph.size; vertex++) {
                    keys[vertex] = keyOf(graph, vertex);
                }
                numberByKeys(graph.size);
                lastRound = round;
            }
        }

        /** The old class weighs most, then the neighbours in the class 0, in the class 1, and so on. */
        private long keyOf(Graph graph, int vertex) {
            long key = numbers[vertex];
            for (int each = 0; each < MOST_VERTICES; each++) {
                key = key << BITS_OF_A_NUMBER | Integer.bitCount(graph.near[vertex] & members[each]);
            }
            return key;
        }

        private void numberByKeys(int size) {
            int firsts = 0;
            for (int vertex = 0; vertex < size; vertex++) {
                if (isFirstOfKey(vertex)) {
                    firsts |= 1 << vertex;
                }
            }
            count = Integer.bitCount(firsts);
            Arrays.fill(members, 0);
            for (int vertex = 0; vertex < size; vertex++) {
                int number = 0;
                for (int other = 0; other < size; other++) {
                    if (isIn(firsts, other) && keys[other] < keys[vertex]) {
                        number++;
                    }
                }
                numbers[vertex] = number;
                members[number] |= 1 << vertex;
            }
        }

        private boolean isFirstOfKey(int vertex) {
            for (int other = 0; other < vertex; other++) {
                if (keys[other] == keys[vertex]) {
                    return false;
                }
            }
            return true;
        }
    }

    /**
     * Finds the least code of a graph, and the arrangements that have it.
     *
     * <p>Colours weigh more than edges, so the places are shared out by rising colours first. Then
     * the places are filled from 0 on. The edges of a place weigh more than all edges between later
     * places, so behind each vertex put onto a place those that are no neighbours of it come ahead
     * of its neighbours. What is open is kept as cells: a cell is a set of vertices that share
     * equally many places next to each other.
     *
     * <p>Of twins that share a cell only the lowest is tried: exchanging twins changes no code. So
     * of best arrangements that differ by exchanges of twins alone the search meets just one: the
     * one that puts the lower twins onto the lower places.
     */
    private static final class Arranging {
        private static final int LOWEST_COLOUR_BIT = 28;
        private static final int LOWEST_SIZE_BIT = 52;
        private static final int BITS_OF_A_PLACE = 3;
        private static final int LAST_PLACE = MOST_VERTICES - 1;
        private static final int ABOVE_ALL_EDGES = 1 << LOWEST_COLOUR_BIT;
        private static final int ABOVE_ALL_PLACES = 1 << BITS_OF_A_PLACE * MOST_VERTICES;
        private static final int[] LOWEST_EDGE_BIT = {21, 15, 10, 6, 3, 1, 0, 0};

        private int leastEdges;
        private int leastPlaces;
        private int met;
        private final int[] twins;
        private final int[] cells;
        private final int[] vertexAt;
        private final int[] seenAt;

        private Arranging() {
            twins = new int[MOST_VERTICES];
            cells = new int[MOST_VERTICES * MOST_VERTICES];
            vertexAt = new int[MOST_VERTICES];
            seenAt = new int[MOST_VERTICES];
        }

        private void search(Graph graph) {
            findTwins(graph);
            shareOutByColours(graph);
            leastEdges = ABOVE_ALL_EDGES;
            arrange(this, graph, 0, 0);
        }

        private void findTwins(Graph graph) {
            for (int vertex = 0; vertex < graph.size; vertex++) {
                twins[vertex] = 0;
                for (int other = 0; other < graph.size; other++) {
                    if (graph.areTwins(vertex, other)) {
                        twins[vertex] |= 1 << other;
                    }
                }
            }
        }

        private void shareOutByColours(Graph graph) {
            int place = 0;
            for (int colour = 0; colour < COLOURS; colour++) {
                int cell = 0;
                for (int vertex = 0; vertex < graph.size; vertex++) {
                    if (graph.colours[vertex] == colour) {
                        cell |= 1 << vertex;
                    }
                }
                int end = place + Integer.bitCount(cell);
                for (; place < end && place < MOST_VERTICES; place++) {
                    cells[place] = cell;
                }
            }
        }

        private static void arrange(Arranging work, Graph graph, int place, int edges) {
            if (place >= graph.size || place > LAST_PLACE) {
                work.meet(graph.size, edges);
                return;
            }
            int cell = work.cells[place * MOST_VERTICES + place];
            int lowestBit = LOWEST_EDGE_BIT[place];
            for (int vertex = 0; vertex < graph.size; vertex++) {
                if ((cell & work.twins[vertex] & below(vertex + 1)) == 1 << vertex) {
                    work.vertexAt[place] = vertex;
                    int more = edges | (work.splitCells(graph, place, vertex) << lowestBit);
                    if (more >> lowestBit <= work.leastEdges >> lowestBit) {
                        arrange(work, graph, place + 1, more);
                    }
                }
            }
        }

        /** Makes the cells behind a place, and returns the bits of its edges to later places. */
        private int splitCells(Graph graph, int place, int vertex) {
            int row = place * MOST_VERTICES;
            int start = place + 1;
            int cellBefore = 0;
            int edges = 0;
            for (int later = place + 1; later < graph.size; later++) {
                int cell = cells[row + later] & ~(1 << vertex);
                if (cell != cellBefore) {
                    start = later;
                    cellBefore = cell;
                }
                int far = cell & ~graph.near[vertex];
                if (later - start < Integer.bitCount(far)) {
                    cells[row + MOST_VERTICES + later] = far;
                } else {
                    cells[row + MOST_VERTICES + later] = cell & graph.near[vertex];
                    edges |= 1 << (LAST_PLACE - later);
                }
            }
            return edges;
        }

        private void meet(int size, int edges) {
            if (edges < leastEdges) {
                leastEdges = edges;
                leastPlaces = ABOVE_ALL_PLACES;
                met = 0;
                Arrays.fill(seenAt, 0);
            }
            met++;
            int places = 0;
            for (int place = 0; place < size; place++) {
                int vertex = vertexAt[place];
                seenAt[place] |= twins[vertex];
                places |= place << shiftOf(vertex);
            }
            leastPlaces = Math.min(leastPlaces, places);
        }

        /** The first of eight small numbers stands highest, so that it weighs most in comparisons. */
        private static int shiftOf(int position) {
            return BITS_OF_A_PLACE * (LAST_PLACE - position);
        }

        private int bestPlace(int vertex) {
            return leastPlaces >> shiftOf(vertex) & LAST_PLACE;
        }

        private long leastCode(Graph graph) {
            long code = (long) graph.size << LOWEST_SIZE_BIT | leastEdges;
            for (int vertex = 0; vertex < graph.size; vertex++) {
                int lowestBit = LOWEST_COLOUR_BIT + shiftOf(bestPlace(vertex));
                code |= (long) graph.colours[vertex] << lowestBit;
            }
            return code;
        }

        /** How many arrangements have the least code, which is how many symmetries there are. */
        private int countBest(int size) {
            int all = met;
            for (int vertex = 0; vertex < size; vertex++) {
                all *= Integer.bitCount(twins[vertex] & below(vertex + 1));
            }
            return all;
        }

        /** The vertices that stand where a vertex stands, in arrangements with the least code. */
        private int exchangeable(int vertex) {
            return seenAt[bestPlace(vertex)];
        }
    }

    /** Finds the first map that shows that two graphs are alike. */
    private static final class Mapping {
        private final int[] images;
        private final Refinement classesHere;
        private final Refinement classesThere;

        private Mapping() {
            images = new int[MOST_VERTICES];
            classesHere = new Refinement();
            classesThere = new Refinement();
        }

        private boolean find(Graph here, Graph there) {
            if (here.size != there.size) {
                return false;
            }
            classesHere.refine(here);
            classesThere.refine(there);
            return extend(this, here, there, 0, 0);
        }

        private static boolean extend(Mapping work, Graph here, Graph there, int vertex, int used) {
            if (vertex >= here.size || vertex >= MOST_VERTICES) {
                return true;
            }
            for (int target = 0; target < there.size; target++) {
                if (!isIn(used, target) && work.fits(here, there, vertex, target)) {
                    work.images[vertex] = target;
                    if (extend(work, here, there, vertex + 1, used | 1 << target)) {
                        return true;
                    }
                }
            }
            return false;
        }

        private boolean fits(Graph here, Graph there, int vertex, int target) {
            // A map that shows that graphs are alike keeps the classes, too: fewer ways to go wrong.
            if (classesHere.numbers[vertex] != classesThere.numbers[target]) {
                return false;
            }
            for (int earlier = 0; earlier < vertex; earlier++) {
                if (here.hasEdge(earlier, vertex) != there.hasEdge(images[earlier], target)) {
                    return false;
                }
            }
            return true;
        }
    }

    /** What can be told of permutations that are told by numbers. */
    private static final class Permutation {
        private static final int BITS_OF_A_POINT = 4;
        private static final int BITS = POINTS * BITS_OF_A_POINT;
        private static final int ALL_BITS_OF_A_POINT = (1 << BITS_OF_A_POINT) - 1;
        private static final long IDENTITY = 0x76543210L;

        private Permutation() {
        }

        private static boolean isOne(long number) {
            if (number >>> BITS != 0) {
                return false;
            }
            int met = 0;
            for (int point = 0; point < POINTS; point++) {
                met |= 1 << (number >> BITS_OF_A_POINT * point & ALL_BITS_OF_A_POINT);
            }
            return met == ALL_POINTS;
        }

        private static int imageOf(long permutation, int point) {
            return (int) (permutation >> BITS_OF_A_POINT * point) & POINTS - 1;
        }

        private static long carrying(int point, int target) {
            return (long) target << BITS_OF_A_POINT * point;
        }

        private static long oneThenOther(long one, long other) {
            long both = 0;
            for (int point = 0; point < POINTS; point++) {
                both |= carrying(point, imageOf(other, imageOf(one, point)));
            }
            return both;
        }

        private static long inverse(long permutation) {
            long back = 0;
            for (int point = 0; point < POINTS; point++) {
                back |= carrying(imageOf(permutation, point), point);
            }
            return back;
        }
    }

    /**
     * A group as a chain of groups, each one in the one before: at the level 0 stands the whole
     * group, and at each next level what of it leaves one more point, its base point, where it is.
     * For each level and each point to which its members carry its base point one of them is kept.
     */
    private static final class Chain {
        private static final int MOST_KEPT = POINTS * (POINTS - 1) / 2;
        private static final int ALL_PERMUTATIONS = 40320;

        private int members;
        private int keptCount;
        private int closedCount;
        private final int[] base;
        private final long[] kept;
        private final long[] back;

        private Chain() {
            base = new int[POINTS];
            kept = new long[MOST_KEPT];
            back = new long[POINTS * POINTS];
        }

        /** Begins with the identity alone, and with some points as the first base points. */
        private void restart(int firstPoints) {
            keptCount = 0;
            closedCount = 0;
            Arrays.fill(back, 0);
            int early = 0;
            int late = Integer.bitCount(firstPoints);
            for (int point = 0; point < POINTS; point++) {
                int level = isIn(firstPoints, point) ? early++ : late++;
                base[level] = point;
                back[level * POINTS + point] = Permutation.IDENTITY;
            }
            members = 1;
        }

        /**
         * Adds a permutation, and what comes of it; stops at a number of members that the group
         * can't exceed.
         */
        private void add(long permutation, int mostMembers) {
            keep(permutation);
            // The chain tells the whole group once each product of two that are kept is in it.
            for (int one = closedCount; one < keptCount && one < MOST_KEPT; one++) {
                for (int other = 0; other <= one && members < mostMembers; other++) {
                    keep(Permutation.oneThenOther(kept[one], kept[other]));
                    keep(Permutation.oneThenOther(kept[other], kept[one]));
                }
            }
            closedCount = keptCount;
        }

        private void keep(long permutation) {
            long rest = restOf(permutation);
            if (rest == Permutation.IDENTITY || keptCount >= MOST_KEPT) {
                return;
            }
            kept[keptCount] = rest;
            keptCount++;
            int level = firstMoved(rest);
            int target = Permutation.imageOf(rest, base[level]);
            back[level * POINTS + target] = Permutation.inverse(rest);
            members = countFrom(0);
        }

        /** What is left of a permutation that the kept members take back: the identity if it is in. */
        private long restOf(long permutation) {
            long rest = permutation;
            for (int level = 0; level < POINTS; level++) {
                int target = Permutation.imageOf(rest, base[level]);
                long takingBack = back[level * POINTS + target];
                if (takingBack == 0) {
                    return rest;
                }
                if (target != base[level]) {
                    rest = Permutation.oneThenOther(rest, takingBack);
                }
            }
            return rest;
        }

        private int firstMoved(long permutation) {
            for (int level = 0; level < POINTS; level++) {
                if (Permutation.imageOf(permutation, base[level]) != base[level]) {
                    return level;
                }
            }
            return POINTS - 1;
        }

        private boolean holds(long permutation) {
            return restOf(permutation) == Permutation.IDENTITY;
        }

        /** How many members leave the base points ahead of a level where they are. */
        private int countFrom(int firstLevel) {
            int all = 1;
            for (int level = firstLevel; level < POINTS; level++) {
                int targets = 0;
                for (int target = 0; target < POINTS; target++) {
                    if (back[level * POINTS + target] != 0) {
                        targets++;
                    }
                }
                all *= targets;
            }
            return all;
        }
    }

    /** The generators, and the group that they make. */
    private static final class Group {
        private int count;
        private final long[] generators;
        private final Chain chain;
        private final Chain fixingChain;

        private Group() {
            generators = new long[MOST_GENERATORS];
            chain = new Chain();
            fixingChain = new Chain();
            clear();
        }

        private void clear() {
            count = 0;
            chain.restart(0);
        }

        private void add(long permutation) {
            if (count < MOST_GENERATORS) {
                generators[count] = permutation;
                count++;
                chain.add(permutation, Chain.ALL_PERMUTATIONS);
            }
        }

        private int reach(int point) {
            int reached = 1 << point;
            // Each pass that is not the last reaches a point more.
            for (int pass = 1; pass < POINTS; pass++) {
                for (int generator = 0; generator < count; generator++) {
                    reached |= imagesOf(generators[generator], reached);
                }
            }
            return reached;
        }

        private static int imagesOf(long permutation, int points) {
            int images = 0;
            for (int point = 0; point < POINTS; point++) {
                if (isIn(points, point)) {
                    images |= 1 << Permutation.imageOf(permutation, point);
                }
            }
            return images;
        }

        private int countFixing(int points) {
            fixingChain.restart(points);
            for (int generator = 0; generator < count; generator++) {
                fixingChain.add(generators[generator], chain.members);
            }
            return fixingChain.countFrom(Integer.bitCount(points));
        }
    }
}
