/** Builds graphs that the tests use. */
final class Shapes {
    private Shapes() {
    }

    /** A graph of a size with edges, each told by its two vertices: "01 12" for a path of three. */
    static void build(CanonCote cote, int graph, int size, String edges) {
        cote.begin(graph, size);
        if (edges.isEmpty()) {
            return;
        }
        for (String edge : edges.split(" ")) {
            cote.toggle(graph, edge.charAt(0) - '0', edge.charAt(1) - '0');
        }
    }

    static void cycle(CanonCote cote, int graph, int size) {
        cote.begin(graph, size);
        for (int vertex = 0; vertex < size; vertex++) {
            cote.toggle(graph, vertex, (vertex + 1) % size);
        }
    }

    static void path(CanonCote cote, int graph, int size) {
        cote.begin(graph, size);
        for (int vertex = 1; vertex < size; vertex++) {
            cote.toggle(graph, vertex - 1, vertex);
        }
    }

    /** Vertices have an edge if their numbers differ in one bit. */
    static void cube(CanonCote cote, int graph) {
        cote.begin(graph, 8);
        for (int vertex = 0; vertex < 8; vertex++) {
            for (int other = 0; other < vertex; other++) {
                if (Integer.bitCount(vertex ^ other) == 1) {
                    cote.toggle(graph, vertex, other);
                }
            }
        }
    }
}
