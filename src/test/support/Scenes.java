/** Scenes that many tests begin with. */
final class Scenes {
    /** One TUBE of each KIND and a seventh; LENGTHS 2 to 9, MARKS 0 to 9 at their ends. */
    static final String ALL_KINDS = "t30w41 e52 s23 f64 d75 t99";

    /**
     * Something everywhere, so that a call that changes what it should leave is seen: ROWS 0 (three), 1 (none), 2 (two that
     * can be heard), 3 (21), TEXTS 0 (good), 1 (one TUBE), 2 (none), DEEDS, two kept STORES, something told, a FINDING.
     * ROWS 4, 5, TEXT 3 and the kept STORE 1 are missing.
     */
    static final Scene RICH = Scene.store(ALL_KINDS)
        .words(5, 9, 19, 2, 33, 65, 257).then("swap", 0, 1).then("tick").then("keep", 0)
        .then("set", 2, 0).then("keep", 2).then("tick")
        .row(0, 3, -1, 7).then("row", 1, 0).row(2, 1, 0).then("row", 3, 21)
        .text(1, "t30").then("text", 2, 0)
        .then("mid", 1, 5).then("at", 0, 2).tried("mark", 0, 1);

    /** 40 DEEDS, the last one a TICK; TUBE 0 has 3 SLOTS and the WORD 5, TUBE 1 has 9 and the WORD 0. */
    static final Scene FULL_OF_DEEDS = Scene.store("t30t90").words(5).times(39, "tick")
        .row(0, 4).then("keep", 1).then("odds", 1, 1, 5).then("at", 0, 0).tried("mean", 3);

    /** As new, but for what is told and found. */
    static final Scene NO_TUBES = Scene.NEW.row(0, 8).then("at", 0, 0).tried("at", 0, 1).then("tear", 0);

    private Scenes() {
    }

    /** TUBE 0 leads to 1, 1 to 2, .. the last one to 0. */
    static Scene ring(String text, int tubes) {
        Scene scene = Scene.store(text);
        for (int i = 0; i + 1 < tubes; i++) {
            scene = scene.then("swap", i, i + 1);
        }
        return scene;
    }
}
