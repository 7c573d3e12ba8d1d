import java.util.ArrayList;
import java.util.List;
import java.util.Set;

/**
 * What a call only tries, reads or refuses leaves nothing behind, nor does what is undone: each call answers, tells and
 * does the same whether or not such a one stood just ahead of it.
 */
public final class EdgesOfAside {
    private static final Set<String> ASKED = Set.of("lay", "at", "mean", "tube", "later", "finds", "round", "left", "best",
        "safest", "words", "test");
    private static final Set<String> CHANCES = Set.of("odds", "mid");
    /** What depends on all calls ahead by its promise. */
    private static final Set<String> OF_ALL_AHEAD = Set.of("asked", "upper", "lower", "finding", "findings");
    /** Stands for as many DEEDS as the scene has. */
    private static final int DEEDS = -77;

    private static final String OTHER = "d27f90 w31 t22 s84 e90 t90";

    /** TEXT 3 is of more TUBES than there are, TEXT 1 has a FAULT behind one TUBE, TEXT 2 has blanks; ROW 5 is missing. */
    private static final Scene FEW = rowsFor(Scene.store("e30s52d41").words(5, 21, 9).then("swap", 0, 2).then("tick")
        .then("keep", 1).then("set", 1, 0)).text(3, OTHER);
    /** TEXT 3 is of fewer TUBES than there are. */
    private static final Scene MANY = rowsFor(Scene.store(OTHER).words(2, 257, 5, 1, 129, 256, 300).then("swap", 6, 0)
        .then("swap", 2, 4).then("tick").then("keep", 1).then("tick").then("set", 3, 1)).text(3, "e30s52");
    /** TEXT 3 is a good one, but there are no TUBES. */
    private static final Scene NO_STORE = rowsFor(Scene.NEW.text(0, "t20x")).text(3, OTHER);

    private record Call(String name, int... numbers) {
    }

    private static Scene rowsFor(Scene scene) {
        return scene.row(0, 1, 0, 1).row(1, 0, 1).then("row", 2, 0).row(3, 9, -9).text(1, "w99").text(2, "  ");
    }

    public static void main(String[] args) {
        lookBehind("what is read, or told", List.of(
            List.of(new Call("fault", 0)), List.of(new Call("fault", 1)), List.of(new Call("fault", 2)),
            List.of(new Call("fault", 3)),
            List.of(new Call("at", 0, 0)), List.of(new Call("mean", 0)), List.of(new Call("tube", 1, 6)),
            List.of(new Call("mark", 1, 3)), List.of(new Call("mark", 2, 5)), List.of(new Call("asked")),
            List.of(new Call("upper")), List.of(new Call("lower")), List.of(new Call("count", 5)),
            List.of(new Call("finding")), List.of(new Call("findings", 2)), List.of(new Call("digest"))));
        lookBehind("what is tried aside", List.of(
            List.of(new Call("later", 0, 60)), List.of(new Call("later", 1, 1)),
            List.of(new Call("hears", 1, 20, 4), new Call("tear", 4)),
            List.of(new Call("finds", 0, 1, 1)), List.of(new Call("finds", 1, 129, 8)), List.of(new Call("round")),
            List.of(new Call("left", 60)), List.of(new Call("best", 40)), List.of(new Call("safest", 1)),
            List.of(new Call("safest", 511)), List.of(new Call("kinds", 0, 0)), List.of(new Call("kinds", 2, 1)),
            List.of(new Call("words", 1, 1)), List.of(new Call("test", 1, 1)), List.of(new Call("duel", 3)),
            List.of(new Call("odds", 3, 20, 7)), List.of(new Call("mid", 20, 5))));
        lookBehind("what is refused", List.of(
            List.of(new Call("fault", 4)), List.of(new Call("store", 1)), List.of(new Call("store", 2)),
            List.of(new Call("row", 0, 41)), List.of(new Call("lay", 0, 3, 1)), List.of(new Call("copy", 0, 0, 1, 1, 2)),
            List.of(new Call("mean", 2)), List.of(new Call("text", 3, -1)), List.of(new Call("put", 3, 60, 1)),
            List.of(new Call("set", 7, 0)), List.of(new Call("swap", 1, 1)), List.of(new Call("word", 0, 512)),
            List.of(new Call("undo", 41)), List.of(new Call("keep", 3)), List.of(new Call("on", 0)),
            List.of(new Call("hears", 0, 21, 0)), List.of(new Call("kinds", 1, 2)), List.of(new Call("words", 1, 3)),
            List.of(new Call("test", 0, 5)), List.of(new Call("lots", 20, 0)), List.of(new Call("lots", 21, 1))));
        lookBehind("what is undone", List.of(
            List.of(new Call("tick"), new Call("undo", DEEDS)), List.of(new Call("set", 1, 1), new Call("undo", DEEDS)),
            List.of(new Call("swap", 0, 1), new Call("undo", DEEDS)),
            List.of(new Call("word", 0, 0), new Call("undo", DEEDS)),
            List.of(new Call("lots", 20, 4711), new Call("undo", DEEDS)), List.of(new Call("undo", DEEDS))));
        Edge.end();
    }

    private static void lookBehind(String what, List<List<Call>> ahead) {
        for (List<Call> calls : ahead) {
            Call first = calls.get(0);
            Edge.test("aside: " + what + ": " + Played.named(first.name(), first.numbers()), () -> {
                for (Scene scene : List.of(FEW, MANY, NO_STORE)) {
                    for (Call call : behind()) {
                        same(scene, calls, call);
                    }
                }
            });
        }
    }

    private static void same(Scene scene, List<Call> ahead, Call call) {
        Played x = scene.play();
        Played y = scene.play();
        int deeds = (int) x.ask("count", 2);
        for (Call other : ahead) {
            int[] numbers = other.numbers().clone();
            for (int i = 0; i < numbers.length; i++) {
                numbers[i] = numbers[i] == DEEDS ? deeds : numbers[i];
            }
            x.ask(other.name(), numbers);
        }
        String name = Played.named(call.name(), call.numbers());
        long answer = y.ask(call.name(), call.numbers());
        long got = x.ask(call.name(), call.numbers());
        if (!OF_ALL_AHEAD.contains(call.name())) {
            Edge.due(name, got, answer);
        }
        if (answer >= 0 && ASKED.contains(call.name())) {
            Edge.due(name + ": asked()", x.ask("asked"), y.ask("asked"));
        }
        if (answer >= 0 && CHANCES.contains(call.name())) {
            Edge.due(name + ": upper()", x.ask("upper"), y.ask("upper"));
            Edge.due(name + ": lower()", x.ask("lower"), y.ask("lower"));
        }
        Edge.due(name + ": digest()", x.ask("digest"), y.ask("digest"));
    }

    /** Each call of the face, with numbers that fit, in the one scene or the other, and such as do not. */
    private static List<Call> behind() {
        List<Call> calls = new ArrayList<>(List.of(
            new Call("row", 0, 2), new Call("lay", 0, 1, 5), new Call("at", 3, 1), new Call("tear", 1),
            new Call("copy", 0, 0, 1, 0, 2), new Call("mean", 3), new Call("text", 0, 5), new Call("put", 0, 1, 57),
            new Call("fault", 0), new Call("fault", 1), new Call("fault", 3), new Call("store", 0), new Call("store", 3),
            new Call("tick"), new Call("undo", 0), new Call("undo", 3), new Call("keep", 0), new Call("on", 1),
            new Call("round"), new Call("left", 9), new Call("best", 7), new Call("best", 20), new Call("safest", 3),
            new Call("safest", 100), new Call("duel", 2), new Call("odds", 4, 9, 5), new Call("mid", 11, 7),
            new Call("odds", 0, 1, 12), new Call("odds", 1, 20, 0), new Call("mid", 1, 12), new Call("mid", 20, 0),
            new Call("lots", 9, 31), new Call("count", 0), new Call("count", 3), new Call("digest")));
        for (int i = -1; i <= 7; i++) {
            calls.addAll(List.of(new Call("set", i, 1), new Call("set", i, 4), new Call("swap", i, 0),
                new Call("swap", 1, i), new Call("word", i, 3), new Call("word", i, 40), new Call("later", i, 7),
                new Call("hears", i, 9, 0), new Call("finds", i, 2, 2), new Call("kinds", i, 0), new Call("words", i, 0),
                new Call("words", i, 1), new Call("test", i, 1), new Call("tube", i, 1), new Call("tube", i, 3),
                new Call("tube", i, 6)));
            for (int kind = 1; kind <= 5; kind++) {
                calls.add(new Call("mark", i, kind));
            }
        }
        return calls;
    }
}
