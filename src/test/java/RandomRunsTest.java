/** Long runs of drawn calls, right ones and wrong ones, each answer compared with what trying out all tells. */
final class RandomRunsTest {
    private static final Check CHECK = new Check("RandomRunsTest");
    private static final int RUNS = 120;
    private static final int CALLS = 512;

    private final Lottery lottery;
    private final CanonCote cote = new CanonCote();
    private final NaiveGraph[] graphs = {new NaiveGraph(), new NaiveGraph(), new NaiveGraph(), new NaiveGraph()};
    private final NaiveGroup group = new NaiveGroup();
    private final int mostVertices;
    private final int mostColours;
    private String name;

    private RandomRunsTest(int run) {
        lottery = new Lottery(run);
        mostVertices = run % 4 == 0 ? 8 : 6;
        mostColours = 1 + run % 3;
        name = "run " + run;
    }

    public static void main(String[] args) {
        for (int run = 0; run < RUNS; run++) {
            RandomRunsTest one = new RandomRunsTest(run);
            for (int call = 0; call < CALLS; call++) {
                one.name = "run " + run + ", call " + call;
                one.callAnything();
            }
        }
        CHECK.end();
    }

    private int drawnGraph() {
        return lottery.isHit(40) ? -1 + 5 * lottery.below(2) : lottery.below(4);
    }

    private int drawnVertex(int graph) {
        int size = isGraph(graph) ? graphs[graph].size : 4;
        return lottery.isHit(40) ? -1 + (size + 1) * lottery.below(2) : lottery.below(size);
    }

    private static boolean isGraph(int graph) {
        return graph >= 0 && graph < 4;
    }

    private boolean isVertex(int graph, int vertex) {
        return isGraph(graph) && vertex >= 0 && vertex < graphs[graph].size;
    }

    private void callAnything() {
        int kind = lottery.below(100);
        if (kind < 45) {
            change(lottery.below(12));
        } else if (kind < 75) {
            ask(lottery.below(14));
        } else {
            askOfGroup(lottery.below(8));
        }
    }

    private void change(int kind) {
        int g = drawnGraph();
        int v = drawnVertex(g);
        int w = drawnVertex(g);
        if (kind < 6) {
            toggle(g, v, w);
        } else if (kind == 6) {
            begin(g, lottery.isHit(10) ? 9 * lottery.below(2) : 1 + lottery.below(mostVertices));
        } else if (kind < 9) {
            colour(g, v, lottery.isHit(20) ? -1 + 9 * lottery.below(2) : lottery.below(mostColours));
        } else if (kind == 9) {
            swap(g, v, w);
        } else if (kind == 10) {
            copy(g, drawnGraph());
        } else {
            complement(g);
        }
    }

    private void toggle(int g, int v, int w) {
        if (!isVertex(g, v) || !isVertex(g, w)) {
            CHECK.throwsIndex(name + " toggle", () -> cote.toggle(g, v, w));
        } else if (v == w) {
            CHECK.throwsArgument(name + " toggle", () -> cote.toggle(g, v, w));
        } else {
            graphs[g].toggle(v, w);
            CHECK.due(name + " toggle", cote.toggle(g, v, w), graphs[g].edge[v][w]);
        }
    }

    private void begin(int g, int size) {
        if (!isGraph(g)) {
            CHECK.throwsIndex(name + " begin", () -> cote.begin(g, size));
        } else if (size < 1 || size > 8) {
            CHECK.throwsArgument(name + " begin", () -> cote.begin(g, size));
        } else {
            CHECK.due(name + " begin", cote.begin(g, size), graphs[g].size);
            graphs[g] = NaiveGraph.with(size);
        }
    }

    private void colour(int g, int v, int colour) {
        if (!isVertex(g, v)) {
            CHECK.throwsIndex(name + " setColour", () -> cote.setColour(g, v, colour));
        } else if (colour < 0 || colour > 7) {
            CHECK.throwsArgument(name + " setColour", () -> cote.setColour(g, v, colour));
        } else {
            CHECK.due(name + " setColour", cote.setColour(g, v, colour), graphs[g].colours[v]);
            graphs[g].colours[v] = colour;
        }
    }

    private void swap(int g, int v, int w) {
        if (!isVertex(g, v) || !isVertex(g, w)) {
            CHECK.throwsIndex(name + " swap", () -> cote.swap(g, v, w));
        } else {
            cote.swap(g, v, w);
            graphs[g].swap(v, w);
        }
    }

    private void copy(int from, int to) {
        if (!isGraph(from) || !isGraph(to)) {
            CHECK.throwsIndex(name + " copy", () -> cote.copy(from, to));
        } else {
            cote.copy(from, to);
            graphs[to] = graphs[from].twin();
        }
    }

    private void complement(int g) {
        if (!isGraph(g)) {
            CHECK.throwsIndex(name + " complement", () -> cote.complement(g));
        } else {
            graphs[g].complement();
            CHECK.due(name + " complement", cote.complement(g), graphs[g].edges());
        }
    }

    private void ask(int kind) {
        int g = lottery.below(4);
        int other = lottery.below(4);
        NaiveGraph graph = graphs[g];
        int v = lottery.below(graph.size);
        switch (kind) {
            case 0 -> CHECK.due(name + " size", cote.size(g), graph.size);
            case 1 -> CHECK.due(name + " edges", cote.edges(g), graph.edges());
            case 2 -> CHECK.due(name + " neighbours", cote.neighbours(g, v), graph.neighbours(v));
            case 3 -> CHECK.due(name + " colour", cote.colour(g, v), graph.colours[v]);
            case 4 -> CHECK.due(name + " classes", cote.classes(g), graph.refined()[graph.size]);
            case 5 -> CHECK.due(name + " classOf", cote.classOf(g, v), graph.refined()[v]);
            case 6 -> CHECK.due(name + " rounds", cote.rounds(g), graph.refined()[graph.size + 1]);
            case 7 -> CHECK.due(name + " form", cote.form(g), graph.form());
            case 8 -> CHECK.due(name + " placeOf", cote.placeOf(g, v), graph.places()[v]);
            case 9 -> askOfTwo(g, other, v);
            case 10 -> CHECK.due(name + " copies", cote.copies(g, other), graph.copiesIn(graphs[other]));
            case 11 -> CHECK.due(name + " symmetries", cote.symmetries(g), graph.symmetries());
            case 12 -> CHECK.due(name + " orbits", cote.orbits(g), distinct(graph.orbits()));
            default -> CHECK.due(name + " orbit", cote.orbit(g, v), graph.orbits()[v]);
        }
    }

    private void askOfTwo(int g, int other, int v) {
        int[] map = graphs[g].firstMap(graphs[other]);
        CHECK.due(name + " areAlike", cote.areAlike(g, other), map != null);
        CHECK.due(name + " image", cote.image(g, other, v), map == null ? CanonCote.NONE : map[v]);
    }

    private static long distinct(int[] orbits) {
        return java.util.Arrays.stream(orbits).distinct().count();
    }

    private long drawnPermutation() {
        int[] images = {0, 1, 2, 3, 4, 5, 6, 7};
        int changes = lottery.below(5);
        for (int change = 0; change < changes; change++) {
            int one = lottery.below(8);
            int other = lottery.below(8);
            int kept = images[one];
            images[one] = images[other];
            images[other] = kept;
        }
        long number = 0;
        for (int point = 0; point < 8; point++) {
            number |= (long) images[point] << 4 * point;
        }
        return lottery.isHit(20) ? number ^ 1L << lottery.below(64) : number;
    }

    private void askOfGroup(int kind) {
        long permutation = drawnPermutation();
        int points = lottery.below(256);
        switch (kind) {
            case 0, 1 -> addGenerator(permutation);
            case 2 -> {
                if (lottery.isHit(4)) {
                    CHECK.due(name + " forgetGenerators", cote.forgetGenerators(), group.generators.size());
                    group.clear();
                }
            }
            case 3 -> CHECK.due(name + " order", cote.order(), group.members.size());
            case 4 -> CHECK.due(name + " moves", cote.moves(points % 8), group.moves(points % 8));
            case 5, 6 -> CHECK.due(name + " fixing", cote.fixing(points), group.fixing(points));
            default -> isInGroup(permutation);
        }
    }

    private void addGenerator(long permutation) {
        if (!NaiveGroup.isPermutation(permutation)) {
            CHECK.throwsArgument(name + " addGenerator", () -> cote.addGenerator(permutation));
        } else if (group.generators.size() == 6) {
            CHECK.throwsState(name + " addGenerator", () -> cote.addGenerator(permutation));
        } else {
            group.add(permutation);
            CHECK.due(name + " addGenerator", cote.addGenerator(permutation), group.members.size());
        }
    }

    private void isInGroup(long permutation) {
        if (!NaiveGroup.isPermutation(permutation)) {
            CHECK.throwsArgument(name + " isInGroup", () -> cote.isInGroup(permutation));
        } else {
            CHECK.due(name + " isInGroup", cote.isInGroup(permutation), group.members.contains(permutation));
        }
    }
}
