import java.util.Arrays;

/** Compares all that a graph is asked with what trying out all tells. */
final class Comparison {
    private Comparison() {
    }

    static void compare(Check check, String name, CanonCote cote, int g, NaiveGraph graph) {
        int[] refined = graph.refined();
        int[] places = graph.places();
        int[] orbits = graph.orbits();
        check.due(name + "classes", cote.classes(g), refined[graph.size]);
        check.due(name + "rounds", cote.rounds(g), refined[graph.size + 1]);
        check.due(name + "form", cote.form(g), graph.form());
        check.due(name + "symmetries", cote.symmetries(g), graph.symmetries());
        check.due(name + "orbits", cote.orbits(g), Arrays.stream(orbits).distinct().count());
        for (int v = 0; v < graph.size; v++) {
            check.due(name + "classOf " + v, cote.classOf(g, v), refined[v]);
            check.due(name + "placeOf " + v, cote.placeOf(g, v), places[v]);
            check.due(name + "orbit " + v, cote.orbit(g, v), orbits[v]);
            check.due(name + "image " + v, cote.image(g, g, v), v);
        }
        check.due(name + "copies", cote.copies(g, g), 1);
    }
}
