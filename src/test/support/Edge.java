import java.util.ArrayList;
import java.util.List;

/** Tests of edges: each bears the sentence that it holds the class to, and all that a call must leave as it was is looked at. */
final class Edge {
    static final int BAD = -1, FULL = -2, FINDING = -3, STATE = -4, NONE = -9;
    static final int NOTHING = 1, BEYOND = 2, UNLIKE = 3, NOUGHT = 4, SIZE = 5;
    static final int LOWEST = Integer.MIN_VALUE, HIGHEST = Integer.MAX_VALUE;

    private static final int NO_FINDING = 0;
    private static String sentence = "";
    private static int tests = 0;
    private static int answers = 0;
    private static int wrong = 0;

    interface Body {
        void run();
    }

    private Edge() {
    }

    static void test(String named, Body body) {
        sentence = named;
        tests++;
        int before = answers;
        try {
            body.run();
        } catch (IllegalStateException e) {
            say(e.getMessage());
        }
        if (answers == before) {
            say("looks at nothing");
        }
    }

    static void end() {
        System.out.println(tests + " edges, " + answers + " answers looked at, " + wrong + " not as due");
        if (wrong != 0) {
            System.exit(1);
        }
    }

    private static void say(String what) {
        wrong++;
        System.out.println("[" + sentence + "] " + what);
    }

    static void due(String what, long got, long want) {
        answers++;
        if (got != want) {
            say(what + " answered " + got + ", due is " + want);
        }
    }

    /** The answer alone, in a scene of its own. */
    static void answers(long want, Scene scene, String call, int... numbers) {
        due(Played.named(call, numbers), scene.play().ask(call, numbers), want);
    }

    /** BAD, FULL, STATE: nothing at all changes. */
    static void refused(int answer, Scene scene, String call, int... numbers) {
        leaves(scene, answer, NO_FINDING, call, numbers);
    }

    /** FINDING: finding() tells it, findings() of it is one more, nothing else changes. */
    static void found(int finding, Scene scene, String call, int... numbers) {
        leaves(scene, FINDING, finding, call, numbers);
    }

    /** An answer (NONE, too) by which nothing changes, asked() neither. */
    static void changesNothing(long answer, Scene scene, String call, int... numbers) {
        leaves(scene, answer, NO_FINDING, call, numbers);
    }

    /** An answer with what asked() tells then; nothing else changes. */
    static void tells(long answer, long asked, Scene scene, String call, int... numbers) {
        String name = Played.named(call, numbers);
        Played x = scene.play();
        Played y = scene.play();
        due(name, x.ask(call, numbers), answer);
        due(name + ": asked()", x.ask("asked"), asked);
        sameFraction(name, x, y);
        sameFindings(name, x, y, NO_FINDING);
        sameState(name, x, y);
    }

    /** 1, with what upper(), lower() tell then; nothing else changes. */
    static void chance(long upper, long lower, Scene scene, String call, int... numbers) {
        String name = Played.named(call, numbers);
        Played x = scene.play();
        Played y = scene.play();
        due(name, x.ask(call, numbers), 1);
        due(name + ": upper()", x.ask("upper"), upper);
        due(name + ": lower()", x.ask("lower"), lower);
        due(name + ": asked() is left", x.ask("asked"), y.ask("asked"));
        sameFindings(name, x, y, NO_FINDING);
        sameState(name, x, y);
    }

    private static void leaves(Scene scene, long answer, int finding, String call, int... numbers) {
        String name = Played.named(call, numbers);
        Played x = scene.play();
        Played y = scene.play();
        due(name, x.ask(call, numbers), answer);
        due(name + ": asked() is left", x.ask("asked"), y.ask("asked"));
        sameFraction(name, x, y);
        sameFindings(name, x, y, finding);
        sameState(name, x, y);
    }

    private static void sameFraction(String name, Played x, Played y) {
        due(name + ": upper() is left", x.ask("upper"), y.ask("upper"));
        due(name + ": lower() is left", x.ask("lower"), y.ask("lower"));
    }

    private static void sameFindings(String name, Played x, Played y, int finding) {
        long latest = y.ask("finding");
        due(name + ": finding()", x.ask("finding"), finding == NO_FINDING ? latest : finding);
        for (int f = 1; f <= 5; f++) {
            due(name + ": findings(" + f + ")", x.ask("findings", f), y.ask("findings", f) + (f == finding ? 1 : 0));
        }
    }

    /** ROWS, TEXTS, TUBES by the digest; the DEEDS and the kept STORES by what is left when they are undone one by one. */
    static void sameState(String name, Played x, Played y) {
        List<Long> one = trace(x);
        List<Long> other = trace(y);
        answers++;
        if (!one.equals(other)) {
            say(name + " does not leave the rest as it was");
        }
    }

    private static List<Long> trace(Played x) {
        List<Long> trace = new ArrayList<>();
        trace.add(x.ask("digest"));
        undoOneByOne(x, trace);
        for (int k = 0; k < 3; k++) {
            trace.add(x.ask("on", k));
            undoOneByOne(x, trace);
        }
        return trace;
    }

    private static void undoOneByOne(Played x, List<Long> trace) {
        for (int n = (int) x.ask("count", 2); n >= 0; n--) {
            trace.add(x.ask("undo", n));
            trace.add(x.ask("digest"));
        }
    }
}
