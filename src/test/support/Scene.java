import java.util.ArrayList;
import java.util.List;

/** Calls that bring a new object to where a test begins; a scene can be played as often as wanted. */
final class Scene {
    static final Scene NEW = new Scene(List.of());

    private record Step(String call, int[] numbers, boolean mayBeRefused) {
    }

    private final List<Step> steps;

    private Scene(List<Step> steps) {
        this.steps = steps;
    }

    /** A new object with a STORE by this TEXT (in TEXT 0). */
    static Scene store(String text) {
        return NEW.text(0, text).then("store", 0);
    }

    /** A call that is not refused: else the scene is not what its test takes it for. */
    Scene then(String call, int... given) {
        return with(new Step(call, given, false));
    }

    /** A call that may be refused. */
    Scene tried(String call, int... given) {
        return with(new Step(call, given, true));
    }

    private Scene with(Step step) {
        List<Step> more = new ArrayList<>(steps);
        more.add(step);
        return new Scene(more);
    }

    Scene times(int n, String call, int... given) {
        Scene scene = this;
        for (int i = 0; i < n; i++) {
            scene = scene.then(call, given);
        }
        return scene;
    }

    Scene text(int t, String signs) {
        Scene scene = then("text", t, signs.length());
        for (int i = 0; i < signs.length(); i++) {
            if (signs.charAt(i) != ' ') {
                scene = scene.then("put", t, i, signs.charAt(i));
            }
        }
        return scene;
    }

    Scene row(int r, int... values) {
        Scene scene = then("row", r, values.length);
        for (int i = 0; i < values.length; i++) {
            if (values[i] != 0) {
                scene = scene.then("lay", r, i, values[i]);
            }
        }
        return scene;
    }

    /** WORDS for TUBES 0, 1, .. in turn; one that is 0 is left as it is. */
    Scene words(int... values) {
        Scene scene = this;
        for (int i = 0; i < values.length; i++) {
            if (values[i] != 0) {
                scene = scene.then("word", i, values[i]);
            }
        }
        return scene;
    }

    Played play() {
        Played played = new Played();
        for (Step step : steps) {
            long answer = played.ask(step.call(), step.numbers());
            if (answer < 0 && !step.mayBeRefused()) {
                String name = Played.named(step.call(), step.numbers());
                throw new IllegalStateException(name + " answered " + answer + " on the way to where the test begins");
            }
        }
        return played;
    }
}
