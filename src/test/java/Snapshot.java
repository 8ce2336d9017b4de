import java.util.ArrayList;
import java.util.List;

/** All that can be asked of an object without changing it. */
final class Snapshot {
    private static final long[] SAMPLES = {0x76543210L, 0x76543201L, 0x07654321L, 0x01234567L, 0x76543021L};

    private Snapshot() {
    }

    /** What graphs and generators are made of; 85 calls at most. */
    static List<Long> of(CanonCote cote) {
        List<Long> all = new ArrayList<>();
        for (int graph = 0; graph < 4; graph++) {
            addGraph(all, cote, graph);
        }
        all.add((long) cote.order());
        for (int point = 0; point < 8; point++) {
            all.add((long) cote.moves(point));
        }
        for (long sample : SAMPLES) {
            all.add(cote.isInGroup(sample) ? 1L : 0L);
        }
        for (int points = 0; points < 8; points += 3) {
            all.add((long) cote.fixing(points));
        }
        return all;
    }

    private static void addGraph(List<Long> all, CanonCote cote, int graph) {
        int size = cote.size(graph);
        all.add((long) size);
        for (int vertex = 0; vertex < size; vertex++) {
            all.add((long) cote.neighbours(graph, vertex));
            all.add((long) cote.colour(graph, vertex));
        }
    }
}
