/** The edges of promises 14 to 20: deeds, undone, kept, gone on from. */
public final class EdgesOfDeeds {
    private static final Scene RICH = Scenes.RICH;
    private static final Scene NO_TUBES = Scenes.NO_TUBES;
    private static final Scene FULL_OF_DEEDS = Scenes.FULL_OF_DEEDS;
    /** 39 DEEDS: one more is taken. */
    private static final Scene NEARLY_FULL = FULL_OF_DEEDS.then("undo", 39);

    public static void main(String[] args) {
        tick();
        set();
        swap();
        word();
        undoRefused();
        undoTaken();
        keep();
        onRefused();
        onTaken();
        Edge.end();
    }

    private static void tick() {
        Edge.test("14: STATE: no TUBES", () -> Edge.refused(Edge.STATE, NO_TUBES, "tick"));
        Edge.test("14: FULL: 40 DEEDS", () -> Edge.refused(Edge.FULL, FULL_OF_DEEDS, "tick"));
        Edge.test("14: the 40th DEED is taken", () -> {
            Edge.answers(2, NEARLY_FULL, "tick");
            Edge.answers(40, NEARLY_FULL.then("tick"), "count", 2);
            Edge.answers(39, NEARLY_FULL.then("tick"), "count", 1);
        });
        Edge.test("14: 40 TICKS, the most that DEEDS let go by", () -> {
            Scene most = Scene.store("t20t20").times(40, "tick");
            Edge.answers(40, most, "count", 1);
            Edge.refused(Edge.FULL, most, "tick");
        });
        Edge.test("14: how many PULSES are then: none, all", () -> {
            Edge.answers(0, Scene.store("t20t20"), "tick");
            Scene all = Scene.store("t90".repeat(7)).words(511, 511, 511, 511, 511, 511, 511);
            Edge.answers(63, all, "tick");
        });
        Edge.test("14: how many PULSES are then, not ahead", () -> {
            Edge.answers(2, Scene.store("w20t20").words(3, 1), "tick");
            Edge.answers(1, Scene.store("f20t20"), "tick");
        });
        Edge.test("14: a PULSE goes from SLOT 0 to the last one, others one on", () -> {
            for (int length = 2; length <= 9; length++) {
                Scene first = Scene.store("t" + length + "0t20").words(1).then("tick");
                Edge.tells(1, 1 << length - 1, first, "tube", 0, 3);
                Scene last = Scene.store("t" + length + "0t20").words(1 << length - 1).then("tick");
                Edge.tells(1, 1 << length - 2, last, "tube", 0, 3);
            }
        });
        Edge.test("14: asked() is left", () -> Edge.answers(7, RICH.then("tick"), "asked"));
    }

    private static void set() {
        Edge.test("15: BAD: a TUBE one below, one above", () -> {
            Edge.refused(Edge.BAD, RICH, "set", -1, 0);
            Edge.refused(Edge.BAD, RICH, "set", 7, 0);
            Edge.refused(Edge.BAD, RICH, "set", Edge.LOWEST, 0);
            Edge.refused(Edge.BAD, RICH, "set", Edge.HIGHEST, 0);
        });
        Edge.test("15: BAD: no TUBES", () -> Edge.refused(Edge.BAD, NO_TUBES, "set", 0, 0));
        Edge.test("15: BAD: a SLOT that there is not, one below, one above", () -> {
            Edge.refused(Edge.BAD, RICH, "set", 3, -1);
            Edge.refused(Edge.BAD, RICH, "set", 3, 2);
            Edge.refused(Edge.BAD, RICH, "set", 6, 9);
            Edge.refused(Edge.BAD, RICH, "set", 6, 32);
            Edge.refused(Edge.BAD, RICH, "set", 6, Edge.LOWEST);
            Edge.refused(Edge.BAD, RICH, "set", 6, Edge.HIGHEST);
        });
        Edge.test("15: FULL, last", () -> {
            Edge.refused(Edge.FULL, FULL_OF_DEEDS, "set", 0, 0);
            Edge.refused(Edge.FULL, FULL_OF_DEEDS, "set", 1, 8);
            Edge.refused(Edge.BAD, FULL_OF_DEEDS, "set", 1, 9);
        });
        Edge.test("15: the 40th DEED is taken", () -> {
            Edge.answers(256, NEARLY_FULL, "set", 1, 8);
            Edge.answers(40, NEARLY_FULL.then("set", 1, 8), "count", 2);
        });
        Edge.test("15: the first and the last SLOT of the first and the last TUBE get one", () -> {
            Scene bare = Scene.store(Scenes.ALL_KINDS);
            Edge.answers(1, bare, "set", 0, 0);
            Edge.answers(4, bare, "set", 0, 2);
            Edge.answers(1, bare, "set", 6, 0);
            Edge.answers(256, bare, "set", 6, 8);
        });
        Edge.test("15: a SLOT that has one loses it", () -> {
            Scene all = Scene.store("t90t20").words(511);
            Edge.answers(510, all, "set", 0, 0);
            Edge.answers(255, all, "set", 0, 8);
            Edge.answers(0, Scene.store("t90t20").words(256), "set", 0, 8);
        });
        Edge.test("15: twice is as it was, and two DEEDS", () -> {
            Scene twice = Scene.store("t90t20").words(5).times(2, "set", 0, 3);
            Edge.tells(1, 5, twice, "tube", 0, 3);
            Edge.answers(3, twice, "count", 2);
        });
        Edge.test("15: one that is not READY, too; no TICK goes by", () -> {
            Scene slow = Scene.store("s30t20").then("tick");
            Edge.answers(2, slow, "set", 0, 1);
            Edge.answers(1, slow.then("set", 0, 1), "count", 1);
        });
        Edge.test("15: asked() is left", () -> Edge.answers(7, RICH.then("set", 0, 0), "asked"));
    }

    private static void swap() {
        Edge.test("16: BAD: either TUBE one below, one above", () -> {
            Edge.refused(Edge.BAD, RICH, "swap", -1, 0);
            Edge.refused(Edge.BAD, RICH, "swap", 7, 0);
            Edge.refused(Edge.BAD, RICH, "swap", 0, -1);
            Edge.refused(Edge.BAD, RICH, "swap", 0, 7);
            Edge.refused(Edge.BAD, RICH, "swap", Edge.LOWEST, Edge.HIGHEST);
        });
        Edge.test("16: BAD: no TUBES", () -> Edge.refused(Edge.BAD, NO_TUBES, "swap", 0, 1));
        Edge.test("16: BAD: two alike", () -> {
            for (int i = 0; i < 7; i++) {
                Edge.refused(Edge.BAD, RICH, "swap", i, i);
            }
            Edge.refused(Edge.BAD, RICH, "swap", 7, 7);
        });
        Edge.test("16: FULL, last", () -> {
            Edge.refused(Edge.FULL, FULL_OF_DEEDS, "swap", 0, 1);
            Edge.refused(Edge.BAD, FULL_OF_DEEDS, "swap", 1, 1);
            Edge.refused(Edge.BAD, FULL_OF_DEEDS, "swap", 1, 2);
        });
        Edge.test("16: the 40th DEED is taken", () -> {
            Edge.answers(1, NEARLY_FULL, "swap", 0, 1);
            Edge.answers(40, NEARLY_FULL.then("swap", 0, 1), "count", 2);
        });
        Edge.test("16: the first and the last TUBE, in either order", () -> {
            Scene bare = Scene.store(Scenes.ALL_KINDS);
            Edge.answers(6, bare, "swap", 0, 6);
            Edge.answers(0, bare, "swap", 6, 0);
            Edge.tells(1, 6, bare.then("swap", 6, 0), "tube", 0, 4);
        });
        Edge.test("16: to which the first one's leads then, not the other one's number", () -> {
            // 0 leads to 1, 1 to 2, 2 to 0
            Scene ring = Scenes.ring("t20t20t20", 3);
            Edge.answers(2, ring, "swap", 0, 1);
            Edge.answers(1, ring, "swap", 1, 0);
            Edge.tells(1, 1, ring.then("swap", 0, 1), "tube", 1, 4);
            Edge.tells(1, 0, ring.then("swap", 0, 1), "tube", 2, 4);
        });
        Edge.test("16: twice is as it was, and two DEEDS", () -> {
            Scene twice = Scene.store("t20t20").times(2, "swap", 0, 1);
            Edge.tells(1, 0, twice, "tube", 0, 4);
            Edge.tells(1, 1, twice, "tube", 1, 4);
            Edge.answers(2, twice, "count", 2);
        });
        Edge.test("16: the WORDS stay", () -> {
            Scene words = Scene.store("t20t30").words(3, 5).then("swap", 0, 1);
            Edge.tells(1, 3, words, "tube", 0, 3);
            Edge.tells(1, 5, words, "tube", 1, 3);
        });
    }

    private static void word() {
        Edge.test("17: BAD: a TUBE one below, one above", () -> {
            Edge.refused(Edge.BAD, RICH, "word", -1, 0);
            Edge.refused(Edge.BAD, RICH, "word", 7, 0);
            Edge.refused(Edge.BAD, RICH, "word", Edge.LOWEST, 0);
            Edge.refused(Edge.BAD, RICH, "word", Edge.HIGHEST, 0);
        });
        Edge.test("17: BAD: no TUBES", () -> Edge.refused(Edge.BAD, NO_TUBES, "word", 0, 0));
        Edge.test("17: WORDS are 0 to as many as its SLOTS can have", () -> {
            for (int length = 2; length <= 9; length++) {
                Scene scene = Scene.store("t" + length + "0t20");
                int most = (1 << length) - 1;
                Edge.answers(0, scene, "word", 0, most);
                Edge.tells(1, most, scene.then("word", 0, most), "tube", 0, 3);
                Edge.answers(most, scene.then("word", 0, most), "word", 0, 0);
                Edge.refused(Edge.BAD, scene, "word", 0, most + 1);
                Edge.refused(Edge.BAD, scene, "word", 0, -1);
            }
            Edge.refused(Edge.BAD, RICH, "word", 6, Edge.HIGHEST);
            Edge.refused(Edge.BAD, RICH, "word", 6, Edge.LOWEST);
        });
        Edge.test("17: STATE: it is that", () -> {
            Edge.refused(Edge.STATE, Scene.store("t30t20"), "word", 0, 0);
            Edge.refused(Edge.STATE, Scene.store("t30t20").words(7), "word", 0, 7);
            // 2 has come to be 1
            Edge.refused(Edge.STATE, Scene.store("t30t20").words(2).then("tick"), "word", 0, 1);
        });
        Edge.test("17: FULL, last: behind BAD, behind STATE", () -> {
            Edge.refused(Edge.FULL, FULL_OF_DEEDS, "word", 0, 7);
            Edge.refused(Edge.FULL, FULL_OF_DEEDS, "word", 1, 511);
            Edge.refused(Edge.STATE, FULL_OF_DEEDS, "word", 0, 5);
            Edge.refused(Edge.STATE, FULL_OF_DEEDS, "word", 1, 0);
            Edge.refused(Edge.BAD, FULL_OF_DEEDS, "word", 1, 512);
        });
        Edge.test("17: the 40th DEED is taken", () -> {
            Edge.answers(0, NEARLY_FULL, "word", 1, 511);
            Edge.answers(40, NEARLY_FULL.then("word", 1, 511), "count", 2);
        });
        Edge.test("17: what it had is answered", () -> Edge.answers(5, Scene.store("t30t20").words(5), "word", 0, 6));
        Edge.test("17: no other TUBE's WORD changes, asked() neither", () -> {
            Edge.tells(1, 3, Scene.store("t30t20").words(0, 3).then("word", 0, 7), "tube", 1, 3);
            Edge.answers(7, RICH.tried("word", 0, 0).tried("word", 0, 1), "asked");
        });
    }

    private static void undoRefused() {
        Edge.test("18: BAD: a number below 0", () -> {
            Edge.refused(Edge.BAD, RICH, "undo", -1);
            Edge.refused(Edge.BAD, RICH, "undo", Edge.LOWEST);
        });
        Edge.test("18: BAD: more than there are DEEDS", () -> {
            // 11 DEEDS
            Edge.answers(11, RICH, "count", 2);
            Edge.refused(Edge.BAD, RICH, "undo", 12);
            Edge.refused(Edge.BAD, RICH, "undo", 40);
            Edge.refused(Edge.BAD, RICH, "undo", Edge.HIGHEST);
            Edge.refused(Edge.BAD, FULL_OF_DEEDS, "undo", 41);
        });
        Edge.test("18: BAD: more than 0 without TUBES, without DEEDS", () -> {
            Edge.refused(Edge.BAD, NO_TUBES, "undo", 1);
            Edge.refused(Edge.BAD, Scene.store("t20t20"), "undo", 1);
        });
    }

    private static void undoTaken() {
        Edge.test("18: from the number behind the last one on none is undone", () -> {
            Edge.changesNothing(0, RICH, "undo", 11);
            Edge.changesNothing(0, FULL_OF_DEEDS, "undo", 40);
            Edge.changesNothing(0, Scene.store("t20t20"), "undo", 0);
            Edge.changesNothing(0, NO_TUBES, "undo", 0);
        });
        Edge.test("18: the last one alone", () -> {
            Edge.answers(1, RICH, "undo", 10);
            Edge.answers(10, RICH.then("undo", 10), "count", 2);
            Edge.answers(1, FULL_OF_DEEDS, "undo", 39);
        });
        Edge.test("18: all, to what it was at first", () -> {
            Edge.answers(11, RICH, "undo", 0);
            Edge.answers(40, FULL_OF_DEEDS, "undo", 0);
            Scene undone = RICH.then("undo", 0);
            Edge.answers(0, undone, "count", 1);
            Edge.answers(0, undone, "count", 2);
            Edge.answers(0, undone, "count", 3);
            Edge.tells(1, 0, undone, "tube", 0, 4);
        });
        Edge.test("18: each DEED by itself: a TICK, a SLOT, WAYS, a WORD", () -> {
            Scene begun = Scene.store("w31f40s20").words(5, 9, 3).then("tick");
            Scene[] done = {begun.then("tick"), begun.then("set", 1, 3), begun.then("swap", 0, 2), begun.then("word", 1, 15)};
            for (Scene one : done) {
                Edge.sameState("undo(4)", one.then("undo", 4).play(), begun.play());
            }
        });
        Edge.test("18: lots of DEEDS, some of them", () -> {
            Scene begun = Scene.store("w31f40s20").words(5, 9, 3);
            Edge.answers(15, begun.then("lots", 20, 77), "undo", 8);
            Edge.sameState("undo(8)", begun.then("lots", 20, 77).then("undo", 8).play(), begun.then("lots", 5, 77).play());
        });
        Edge.test("18: what is undone leaves room for as many", () -> {
            Scene again = FULL_OF_DEEDS.then("undo", 38).times(2, "tick");
            Edge.answers(40, again, "count", 2);
            Edge.refused(Edge.FULL, again, "tick");
            Edge.sameState("undo(38) and again", again.play(), FULL_OF_DEEDS.play());
        });
        Edge.test("18: ROWS, TEXTS, kept STORES and what is told stay", () -> {
            Scene undone = RICH.then("undo", 0);
            Edge.answers(4, undone, "count", 6);
            Edge.answers(3, undone, "count", 7);
            Edge.answers(2, undone, "count", 8);
            Edge.answers(9, undone, "on", 0);
            Edge.answers(7, undone, "asked");
            Edge.answers(Edge.UNLIKE, undone, "finding");
        });
    }

    private static void keep() {
        Edge.test("19: the least and the greatest place, one below, one above", () -> {
            Edge.answers(11, RICH, "keep", 0);
            Edge.answers(11, RICH, "keep", 1);
            Edge.answers(11, RICH, "keep", 2);
            Edge.refused(Edge.BAD, RICH, "keep", -1);
            Edge.refused(Edge.BAD, RICH, "keep", 3);
            Edge.refused(Edge.BAD, RICH, "keep", Edge.LOWEST);
            Edge.refused(Edge.BAD, RICH, "keep", Edge.HIGHEST);
        });
        Edge.test("19: STATE: no TUBES, behind BAD", () -> {
            Edge.refused(Edge.STATE, NO_TUBES, "keep", 0);
            Edge.refused(Edge.STATE, NO_TUBES, "keep", 2);
            Edge.refused(Edge.BAD, NO_TUBES, "keep", 3);
            Edge.refused(Edge.BAD, NO_TUBES, "keep", -1);
        });
        Edge.test("19: no DEEDS, 40 DEEDS", () -> {
            Edge.answers(0, Scene.store("t20t20"), "keep", 0);
            Edge.answers(1, Scene.store("t20t20").then("keep", 0), "count", 8);
            Edge.answers(40, FULL_OF_DEEDS, "keep", 0);
            Edge.sameState("on(0)", FULL_OF_DEEDS.then("keep", 0).then("undo", 0).then("on", 0).play(),
                FULL_OF_DEEDS.then("keep", 0).play());
        });
        Edge.test("19: a place that is taken is kept anew", () -> {
            Scene again = RICH.then("keep", 0);
            Edge.answers(2, again, "count", 8);
            Edge.answers(11, again.then("undo", 0), "on", 0);
            Edge.answers(10, again.then("undo", 0), "on", 2);
        });
        Edge.test("19: all three places", () -> Edge.answers(3, RICH.then("keep", 1), "count", 8));
        Edge.test("19: what is done behind it does not change what is kept", () -> {
            Scene begun = Scene.store("t30t20").words(5).then("keep", 1);
            Scene on = begun.then("tick").then("set", 0, 0).then("undo", 0).then("word", 0, 2).then("tick").then("on", 1);
            Edge.sameState("on(1)", on.play(), begun.play());
        });
        Edge.test("19: asked() is left, the STORE, too", () -> {
            Edge.answers(7, RICH.then("keep", 1), "asked");
            Edge.tells(1, 1, RICH.then("keep", 1), "tube", 0, 4);
            Edge.answers(11, RICH.then("keep", 1), "count", 2);
        });
    }

    private static void onRefused() {
        Edge.test("20: BAD: a place one below, one above", () -> {
            Edge.refused(Edge.BAD, RICH, "on", -1);
            Edge.refused(Edge.BAD, RICH, "on", 3);
            Edge.refused(Edge.BAD, RICH, "on", Edge.LOWEST);
            Edge.refused(Edge.BAD, RICH, "on", Edge.HIGHEST);
        });
        Edge.test("20: NOTHING: none is kept there", () -> {
            Edge.found(Edge.NOTHING, RICH, "on", 1);
            for (int k = 0; k <= 2; k++) {
                Edge.found(Edge.NOTHING, NO_TUBES, "on", k);
                Edge.found(Edge.NOTHING, Scene.store("t20t20"), "on", k);
            }
        });
    }

    private static void onTaken() {
        Edge.test("20: the least and the greatest place", () -> {
            Edge.answers(9, RICH, "on", 0);
            Edge.answers(10, RICH, "on", 2);
        });
        Edge.test("20: the STORE is as it was kept: WORDS, WAYS, TICK, DEEDS", () -> {
            Scene kept = Scene.store("w31f40s20").words(5, 9, 3).then("swap", 0, 2).times(3, "tick").then("keep", 0);
            Scene gone = kept.then("swap", 0, 1).then("tick").then("set", 2, 1).then("word", 1, 0);
            Edge.sameState("on(0)", gone.then("on", 0).play(), kept.play());
        });
        Edge.test("20: from fewer DEEDS to more", () -> {
            Scene kept = Scene.store("w31f40s20").words(5, 9, 3).times(3, "tick").then("keep", 0);
            Edge.answers(6, kept.then("undo", 0), "on", 0);
            Edge.sameState("on(0)", kept.then("undo", 0).then("on", 0).play(), kept.play());
        });
        Edge.test("20: one kept without DEEDS", () -> {
            Scene kept = Scene.store("t30t20").then("keep", 2);
            Edge.answers(0, kept.words(5).then("tick"), "on", 2);
            Edge.sameState("on(2)", kept.words(5).then("tick").then("on", 2).play(), kept.play());
        });
        Edge.test("20: again and again, as it stays kept", () -> {
            Scene twice = RICH.then("on", 0).then("tick").then("on", 0);
            Edge.sameState("on(0) twice", twice.play(), RICH.then("on", 0).play());
            Edge.answers(2, twice, "count", 8);
        });
        Edge.test("20: it is gone on from: undone, too", () -> {
            Edge.answers(9, RICH.then("on", 0), "undo", 0);
            Edge.answers(10, RICH.then("on", 0).then("tick"), "count", 2);
            Edge.refused(Edge.FULL, FULL_OF_DEEDS.then("undo", 0).then("on", 1), "tick");
        });
        Edge.test("20: ROWS, TEXTS, what is told stay", () -> {
            Edge.answers(4, RICH.then("tear", 0).then("row", 4, 2).then("on", 0), "count", 6);
            Edge.found(Edge.NOTHING, RICH.then("tear", 0).then("on", 0), "at", 0, 0);
            Edge.answers(7, RICH.then("on", 0), "asked");
        });
    }
}
