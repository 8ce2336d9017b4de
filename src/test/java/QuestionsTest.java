import java.util.ArrayList;
import java.util.List;
import java.util.function.ToLongFunction;

/**
 * Questions change nothing, neither the state nor what other questions answer, and are about what
 * there is then, whatever has been asked or changed before.
 */
final class QuestionsTest {
    private static final Check CHECK = new Check("QuestionsTest");
    private static final int[] SIZES = {8, 8, 5, 1};

    public static void main(String[] args) {
        List<ToLongFunction<CanonCote>> questions = allQuestions();
        askEachAlone(questions);
        askOneBehindTheOther(questions);
        askAheadOfEachChange();
        askInTheLastCall();
        CHECK.end();
    }

    private static CanonCote built() {
        CanonCote cote = new CanonCote();
        Shapes.build(cote, 0, 8, "01 12 23 34 45 56 67 70 04 26");
        cote.setColour(0, 3, 2);
        cote.copy(0, 1);
        cote.swap(1, 3, 6);
        cote.swap(1, 0, 1);
        Shapes.build(cote, 2, 5, "01 12 23 13");
        cote.begin(3, 1);
        cote.addGenerator(0x76543120L);
        cote.addGenerator(0x45673210L);
        return cote;
    }

    private static List<ToLongFunction<CanonCote>> allQuestions() {
        List<ToLongFunction<CanonCote>> all = new ArrayList<>();
        for (int graph = 0; graph < 4; graph++) {
            addOfGraph(all, graph);
            for (int other = 0; other < 4; other++) {
                addOfTwo(all, graph, other);
            }
        }
        all.add(cote -> cote.order());
        for (int number = 0; number < 8; number++) {
            int point = number;
            all.add(cote -> cote.moves(point));
            all.add(cote -> cote.fixing(1 << point));
        }
        all.add(cote -> cote.fixing(0));
        all.add(cote -> cote.fixing(255));
        all.add(cote -> cote.isInGroup(0x76543210L) ? 1 : 0);
        all.add(cote -> cote.isInGroup(0x76543012L) ? 1 : 0);
        all.add(cote -> cote.isInGroup(0x45673120L) ? 1 : 0);
        return all;
    }

    private static void addOfGraph(List<ToLongFunction<CanonCote>> all, int graph) {
        all.add(cote -> cote.size(graph));
        all.add(cote -> cote.edges(graph));
        all.add(cote -> cote.classes(graph));
        all.add(cote -> cote.rounds(graph));
        all.add(cote -> cote.form(graph));
        all.add(cote -> cote.symmetries(graph));
        all.add(cote -> cote.orbits(graph));
        for (int number = 0; number < SIZES[graph]; number++) {
            int vertex = number;
            all.add(cote -> cote.neighbours(graph, vertex));
            all.add(cote -> cote.colour(graph, vertex));
            all.add(cote -> cote.classOf(graph, vertex));
            all.add(cote -> cote.placeOf(graph, vertex));
            all.add(cote -> cote.orbit(graph, vertex));
        }
    }

    private static void addOfTwo(List<ToLongFunction<CanonCote>> all, int graph, int other) {
        all.add(cote -> cote.areAlike(graph, other) ? 1 : 0);
        all.add(cote -> cote.copies(graph, other));
        for (int number = 0; number < SIZES[graph]; number++) {
            int vertex = number;
            all.add(cote -> cote.image(graph, other, vertex));
        }
    }

    private static void askEachAlone(List<ToLongFunction<CanonCote>> questions) {
        List<Long> before = Snapshot.of(built());
        for (int k = 0; k < questions.size(); k++) {
            CanonCote cote = built();
            long answer = questions.get(k).applyAsLong(cote);
            CHECK.due("question " + k + " changed nothing", Snapshot.of(cote).equals(before), true);
            CHECK.due("question " + k + " again", questions.get(k).applyAsLong(cote), answer);
            CHECK.due("question " + k + " left the generators", cote.forgetGenerators(), 2);
        }
    }

    private static void askOneBehindTheOther(List<ToLongFunction<CanonCote>> questions) {
        long[] answers = new long[questions.size()];
        for (int k = 0; k < answers.length; k++) {
            answers[k] = questions.get(k).applyAsLong(built());
        }
        for (int stride : new int[] {1, 1009, 10007}) {
            CanonCote cote = built();
            for (int step = 0; step < answers.length; step++) {
                int k = (answers.length - 1 - step) * stride % answers.length;
                CHECK.due("question " + k + " behind others", questions.get(k).applyAsLong(cote), answers[k]);
            }
        }
    }

    private static final class Twins {
        private final CanonCote asked = new CanonCote();
        private final CanonCote unasked = new CanonCote();

        /** One object is asked ahead of the change, and the other one only behind it. */
        void change(String name, ToLongFunction<CanonCote> call) {
            allAnswers(asked);
            CHECK.due(name, call.applyAsLong(asked), call.applyAsLong(unasked));
            CanonCote anew = rebuilt(unasked);
            CHECK.due(name + ", then all questions", allAnswers(asked).equals(allAnswers(anew)), true);
        }

        private static List<Long> allAnswers(CanonCote cote) {
            List<Long> all = new ArrayList<>();
            for (int graph = 0; graph < 2; graph++) {
                all.add(cote.form(graph));
                all.add((long) cote.classes(graph));
                all.add((long) cote.rounds(graph));
                all.add((long) cote.symmetries(graph));
                all.add((long) cote.orbits(graph));
                all.add((long) cote.copies(1 - graph, graph));
                for (int vertex = 0; vertex < cote.size(graph); vertex++) {
                    all.add((long) cote.placeOf(graph, vertex));
                    all.add((long) cote.image(graph, 1 - graph, vertex));
                }
            }
            return all;
        }

        private static CanonCote rebuilt(CanonCote model) {
            CanonCote made = new CanonCote();
            for (int graph = 0; graph < 2; graph++) {
                made.begin(graph, model.size(graph));
                for (int vertex = 0; vertex < model.size(graph); vertex++) {
                    made.setColour(graph, vertex, model.colour(graph, vertex));
                    for (int other = 0; other < vertex; other++) {
                        if ((model.neighbours(graph, vertex) >> other & 1) == 1) {
                            made.toggle(graph, vertex, other);
                        }
                    }
                }
            }
            return made;
        }
    }

    private static void askAheadOfEachChange() {
        Twins twins = new Twins();
        twins.change("3: toggle", cote -> cote.toggle(0, 0, 1) ? 1 : 0);
        twins.change("3: toggle again", cote -> cote.toggle(0, 1, 2) ? 1 : 0);
        twins.change("4: setColour", cote -> cote.setColour(0, 2, 5));
        twins.change("6: copy", cote -> {
            cote.copy(0, 1);
            return 0;
        });
        twins.change("5: swap", cote -> {
            cote.swap(0, 0, 3);
            return 0;
        });
        // Objects anew: none is promised to answer more than 512 calls.
        twins = new Twins();
        twins.change("3: toggle anew", cote -> cote.toggle(0, 0, 1) ? 1 : 0);
        twins.change("7: complement", cote -> cote.complement(0));
        twins.change("7: complement of the other", cote -> cote.complement(1));
        twins.change("2: begin", cote -> cote.begin(0, 3));
        twins = new Twins();
        twins.change("2: begin larger", cote -> cote.begin(0, 8));
        twins.change("7: complement of it", cote -> cote.complement(0));
        twins.change("3: toggle in it", cote -> cote.toggle(0, 7, 0) ? 1 : 0);
        twins.change("2: begin the smallest", cote -> cote.begin(0, 1));
    }

    /** The 512th call is promised like the first one, even if all calls ahead of it were dear. */
    private static void askInTheLastCall() {
        CanonCote cote = new CanonCote();
        Shapes.cube(cote, 0);
        int callsSoFar = 13;
        for (int call = callsSoFar + 1; call < 512; call++) {
            cote.copies(0, 0);
        }
        CHECK.due("the call 512", cote.symmetries(0), 48);
        CanonCote group = new CanonCote();
        for (int call = 1; call < 512; call++) {
            if (call % 7 == 3) {
                group.forgetGenerators();
            } else {
                group.addGenerator(call % 7 == 4 ? 0x76543201L : 0x07654321L);
            }
        }
        CHECK.due("the call 512 of a group", group.order(), 40320);
    }
}
