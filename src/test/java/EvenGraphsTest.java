/**
 * Graphs of eight vertices that look alike from each vertex, or nearly so: refinement tells little
 * of them, so that the searches have to find out by themselves.
 */
final class EvenGraphsTest {
    private static final Check CHECK = new Check("EvenGraphsTest");

    private final Lottery lottery;
    private final CanonCote cote = new CanonCote();
    private final NaiveGraph[] graphs = {NaiveGraph.with(8), NaiveGraph.with(8)};
    private final String name;

    private EvenGraphsTest(String name, int seed) {
        this.name = name;
        lottery = new Lottery(seed);
    }

    public static void main(String[] args) {
        for (int steps = 0; steps < 16; steps++) {
            for (int changes = 0; changes < 4; changes++) {
                new EvenGraphsTest("steps " + steps + ", changes " + changes + ", ", steps).compare(true, steps, changes);
            }
        }
        for (int masks = 0; masks < 256; masks += 2) {
            new EvenGraphsTest("masks " + masks + ", ", masks).compare(false, masks, masks / 2 % 3);
        }
        CHECK.end();
    }

    private void compare(boolean isRound, int kinds, int changes) {
        cote.begin(0, 8);
        for (int v = 0; v < 8; v++) {
            for (int w = 0; w < v; w++) {
                int kind = isRound ? Math.min(v - w, 8 - v + w) - 1 : v ^ w;
                if ((kinds >> kind & 1) == 1) {
                    toggle(v, w);
                }
            }
        }
        for (int change = 0; change < changes; change++) {
            int v = lottery.below(8);
            toggle(v, (v + 1 + lottery.below(7)) % 8);
        }
        cote.copy(0, 1);
        graphs[1] = graphs[0].twin();
        shuffle(0);
        shuffle(1);
        Comparison.compare(CHECK, name, cote, 0, graphs[0]);
        compareMaps();
        compareCopies();
    }

    private void toggle(int v, int w) {
        cote.toggle(0, v, w);
        graphs[0].toggle(v, w);
    }

    private void shuffle(int g) {
        for (int change = 0; change < 8; change++) {
            int v = lottery.below(8);
            int w = lottery.below(8);
            cote.swap(g, v, w);
            graphs[g].swap(v, w);
        }
    }

    private void compareMaps() {
        int[] map = graphs[0].firstMap(graphs[1]);
        CHECK.due(name + "areAlike", cote.areAlike(0, 1), true);
        for (int v = 0; v < 8; v++) {
            CHECK.due(name + "image " + v, cote.image(0, 1, v), map[v]);
        }
    }

    private void compareCopies() {
        NaiveGraph small = NaiveGraph.with(3 + lottery.below(3));
        cote.begin(2, small.size);
        for (int v = 1; v < small.size; v++) {
            int w = lottery.below(v);
            small.toggle(v, w);
            cote.toggle(2, v, w);
        }
        CHECK.due(name + "copies", cote.copies(2, 0), small.copiesIn(graphs[0]));
    }
}
