import java.util.ArrayList;
import java.util.List;
import java.util.TreeSet;

/** A graph whose questions are answered by trying out all, word by word as the document has them. */
final class NaiveGraph {
    private static final List<List<int[]>> ORDERS = allOrders();

    int size = 4;
    int[] colours = new int[8];
    boolean[][] edge = new boolean[8][8];

    static NaiveGraph with(int size) {
        NaiveGraph made = new NaiveGraph();
        made.size = size;
        return made;
    }

    NaiveGraph twin() {
        NaiveGraph made = with(size);
        made.colours = colours.clone();
        for (int v = 0; v < 8; v++) {
            made.edge[v] = edge[v].clone();
        }
        return made;
    }

    private static List<List<int[]>> allOrders() {
        List<List<int[]>> all = new ArrayList<>();
        for (int size = 0; size <= 8; size++) {
            all.add(new ArrayList<>());
            addOrders(new int[size], 0, 0, all.get(size));
        }
        return all;
    }

    /** In the order in which the number for 0 weighs most, then that for 1, and so on. */
    private static void addOrders(int[] order, int filled, int used, List<int[]> all) {
        if (filled == order.length) {
            all.add(order.clone());
            return;
        }
        for (int k = 0; k < order.length; k++) {
            if ((used >> k & 1) == 0) {
                order[filled] = k;
                addOrders(order, filled + 1, used | 1 << k, all);
            }
        }
    }

    void toggle(int v, int w) {
        edge[v][w] = !edge[v][w];
        edge[w][v] = edge[v][w];
    }

    void swap(int v, int w) {
        int[] order = new int[size];
        for (int k = 0; k < size; k++) {
            order[k] = k == v ? w : k == w ? v : k;
        }
        NaiveGraph old = twin();
        for (int a = 0; a < size; a++) {
            colours[order[a]] = old.colours[a];
            for (int b = 0; b < size; b++) {
                edge[order[a]][order[b]] = old.edge[a][b];
            }
        }
    }

    void complement() {
        for (int v = 0; v < size; v++) {
            for (int w = 0; w < size; w++) {
                edge[v][w] = v != w && !edge[v][w];
            }
        }
    }

    int edges() {
        int count = 0;
        for (int v = 0; v < size; v++) {
            for (int w = 0; w < v; w++) {
                count += edge[v][w] ? 1 : 0;
            }
        }
        return count;
    }

    int neighbours(int vertex) {
        int mask = 0;
        for (int v = 0; v < size; v++) {
            mask |= edge[vertex][v] ? 1 << v : 0;
        }
        return mask;
    }

    /** The classes in the end, by vertex; behind them the number of classes and that of rounds. */
    int[] refined() {
        List<List<Integer>> keys = new ArrayList<>();
        for (int v = 0; v < size; v++) {
            keys.add(List.of(colours[v]));
        }
        int[] classes = numbered(keys);
        int rounds = 0;
        while (true) {
            int before = classes[size];
            keys.clear();
            for (int v = 0; v < size; v++) {
                List<Integer> key = new ArrayList<>();
                key.add(classes[v]);
                for (int c = 0; c < before; c++) {
                    int count = 0;
                    for (int w = 0; w < size; w++) {
                        count += edge[v][w] && classes[w] == c ? 1 : 0;
                    }
                    key.add(count);
                }
                keys.add(key);
            }
            classes = numbered(keys);
            rounds++;
            if (classes[size] == before) {
                int[] all = new int[size + 2];
                System.arraycopy(classes, 0, all, 0, size + 1);
                all[size + 1] = rounds;
                return all;
            }
        }
    }

    private int[] numbered(List<List<Integer>> keys) {
        TreeSet<List<Integer>> sorted = new TreeSet<>(NaiveGraph::compare);
        sorted.addAll(keys);
        int[] numbers = new int[size + 1];
        for (int v = 0; v < size; v++) {
            numbers[v] = sorted.headSet(keys.get(v)).size();
        }
        numbers[size] = sorted.size();
        return numbers;
    }

    private static int compare(List<Integer> one, List<Integer> other) {
        for (int k = 0; k < one.size(); k++) {
            int order = Integer.compare(one.get(k), other.get(k));
            if (order != 0) {
                return order;
            }
        }
        return 0;
    }

    private long code(int[] placeOf) {
        int[] at = new int[size];
        for (int v = 0; v < size; v++) {
            at[placeOf[v]] = v;
        }
        long code = size;
        for (int p = 0; p < 8; p++) {
            code = code << 3 | (p < size ? colours[at[p]] : 0);
        }
        for (int p = 0; p < 8; p++) {
            for (int q = p + 1; q < 8; q++) {
                code = code << 1 | (q < size && edge[at[p]][at[q]] ? 1 : 0);
            }
        }
        return code;
    }

    long form() {
        return code(places());
    }

    int[] places() {
        int[] best = null;
        long least = Long.MAX_VALUE;
        for (int[] order : ORDERS.get(size)) {
            long code = code(order);
            if (code < least) {
                least = code;
                best = order;
            }
        }
        return best;
    }

    private boolean isMappedOnto(NaiveGraph other, int[] map) {
        for (int v = 0; v < size; v++) {
            if (colours[v] != other.colours[map[v]]) {
                return false;
            }
            for (int w = 0; w < v; w++) {
                if (edge[v][w] != other.edge[map[v]][map[w]]) {
                    return false;
                }
            }
        }
        return true;
    }

    /** The first map onto another graph, or null. */
    int[] firstMap(NaiveGraph other) {
        if (size != other.size) {
            return null;
        }
        for (int[] map : ORDERS.get(size)) {
            if (isMappedOnto(other, map)) {
                return map;
            }
        }
        return null;
    }

    int copiesIn(NaiveGraph large) {
        int count = 0;
        for (int mask = 0; mask < 1 << large.size; mask++) {
            if (Integer.bitCount(mask) == size && firstMap(large.part(mask)) != null) {
                count++;
            }
        }
        return count;
    }

    private NaiveGraph part(int mask) {
        List<Integer> vertices = new ArrayList<>();
        for (int v = 0; v < size; v++) {
            if ((mask >> v & 1) == 1) {
                vertices.add(v);
            }
        }
        NaiveGraph made = with(vertices.size());
        for (int v = 0; v < made.size; v++) {
            made.colours[v] = colours[vertices.get(v)];
            for (int w = 0; w < made.size; w++) {
                made.edge[v][w] = edge[vertices.get(v)][vertices.get(w)];
            }
        }
        return made;
    }

    int symmetries() {
        int count = 0;
        for (int[] map : ORDERS.get(size)) {
            count += isMappedOnto(this, map) ? 1 : 0;
        }
        return count;
    }

    int[] orbits() {
        int[] orbits = new int[size];
        for (int[] map : ORDERS.get(size)) {
            if (isMappedOnto(this, map)) {
                for (int v = 0; v < size; v++) {
                    orbits[v] |= 1 << map[v];
                }
            }
        }
        return orbits;
    }
}
