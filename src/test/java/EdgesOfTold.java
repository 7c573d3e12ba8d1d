/** The edges of promises 35 to 41: what is told, counted, found, and the digest. */
public final class EdgesOfTold {
    private static final Scene RICH = Scenes.RICH;
    private static final Scene NO_TUBES = Scenes.NO_TUBES;
    /** asked() is 77, upper() by lower() 11 by 4. */
    private static final Scene TOLD = Scene.store("t20t30").words(1, 3).row(0, 77).row(1, 1).row(2)
        .then("mid", 0, 1).then("at", 0, 0);

    public static void main(String[] args) {
        asked();
        askedIsLeft();
        fractions();
        countRefused();
        countOfTubes();
        countOfTheRest();
        finding();
        findings();
        digestOfNew();
        digestByParts();
        digestOfAll();
        Edge.end();
    }

    private static void asked() {
        Edge.test("35: 0 before", () -> {
            Edge.changesNothing(0, Scene.NEW, "asked");
            Edge.changesNothing(0, Scene.store("t20t20").then("tick"), "asked");
        });
        Edge.test("35: what each of the twelve told", () -> {
            Edge.answers(77, TOLD.then("lay", 0, 0, 5), "asked");
            Edge.answers(1, TOLD.then("at", 1, 0), "asked");
            Edge.answers(1, TOLD.then("mean", 1), "asked");
            Edge.answers(2, TOLD.then("tube", 0, 1), "asked");
            Edge.answers(3, TOLD.then("later", 0, 1), "asked");
            Edge.answers(2, TOLD.then("finds", 1, 3, 2), "asked");
            Edge.answers(3, TOLD.then("round"), "asked");
            Edge.answers(0, TOLD.then("left", 0), "asked");
            Edge.answers(1, Scene.store("t20w20").words(0, 1).then("best", 1), "asked");
            Edge.answers(2, TOLD.then("safest", 1), "asked");
            Edge.answers(1, TOLD.row(1, 1, 0).then("words", 0, 1), "asked");
            // a WEAK and a DULL one have nothing left, a FLIP one has
            Edge.answers(2, TOLD.row(1, 1, 0, 0, 0).then("test", 0, 1), "asked");
        });
        Edge.test("35: the latest of them", () -> {
            Edge.answers(30, TOLD.row(3, 10, 20, 30).then("at", 3, 0).then("at", 3, 1).then("at", 3, 2), "asked");
            Edge.answers(2, TOLD.then("at", 0, 0).then("tube", 0, 1), "asked");
        });
        Edge.test("35: again and again the same", () -> Edge.answers(77, TOLD.then("asked").then("asked"), "asked"));
        Edge.test("35: a number below 0, the least and the greatest", () -> {
            Edge.answers(Edge.LOWEST, TOLD.row(3, Edge.LOWEST).then("at", 3, 0), "asked");
            Edge.answers(Edge.HIGHEST, TOLD.row(3, Edge.HIGHEST).then("at", 3, 0), "asked");
        });
    }

    private static void askedIsLeft() {
        Edge.test("35: not by one of the twelve that was refused", () -> {
            Edge.found(Edge.BEYOND, TOLD, "lay", 0, 1, 5);
            Edge.found(Edge.BEYOND, TOLD, "at", 0, 1);
            Edge.found(Edge.NOUGHT, TOLD, "mean", 2);
            Edge.refused(Edge.BAD, TOLD, "tube", 2, 0);
            Edge.refused(Edge.BAD, TOLD, "later", 0, 61);
            Edge.refused(Edge.BAD, TOLD, "finds", 0, 2, 1);
            Edge.refused(Edge.STATE, NO_TUBES, "round");
            Edge.refused(Edge.BAD, TOLD, "left", 61);
            Edge.refused(Edge.BAD, TOLD, "best", 41);
            Edge.refused(Edge.BAD, TOLD, "safest", 512);
            Edge.found(Edge.UNLIKE, TOLD, "words", 0, 0);
            Edge.found(Edge.UNLIKE, TOLD, "test", 0, 0);
        });
        Edge.test("35: nor by one of the twelve that answered NONE", () -> {
            Edge.changesNothing(Edge.NONE, TOLD, "finds", 1, 7, 3);
            Scene lost = Scene.store("w20w20").words(3).row(0, 77).then("at", 0, 0);
            Edge.changesNothing(Edge.NONE, lost, "round");
            Edge.changesNothing(Edge.NONE, TOLD, "best", 1);
            Edge.changesNothing(Edge.NONE, TOLD, "safest", 8);
            Edge.changesNothing(Edge.NONE, TOLD.row(1, 1, 0, 0).then("at", 0, 0), "words", 0, 1);
            Edge.changesNothing(Edge.NONE, TOLD.row(1, 0).then("at", 0, 0), "test", 0, 1);
        });
        Edge.test("35: nor by any other call", () -> {
            Scene[] others = {
                TOLD.then("row", 3, 2), TOLD.then("tear", 0), TOLD.then("copy", 1, 0, 0, 0, 1), TOLD.then("text", 1, 3),
                TOLD.then("put", 0, 0, 65), TOLD.tried("fault", 0), TOLD.then("store", 0), TOLD.tried("mark", 0, 1),
                TOLD.then("tick"), TOLD.then("set", 0, 0), TOLD.then("swap", 0, 1), TOLD.then("word", 0, 2),
                TOLD.then("undo", 0), TOLD.then("keep", 0), TOLD.then("keep", 0).then("on", 0), TOLD.then("hears", 0, 1, 3),
                TOLD.then("kinds", 0, 1), TOLD.then("duel", 3), TOLD.then("odds", 1, 1, 1), TOLD.then("mid", 1, 1),
                TOLD.then("lots", 20, 1), TOLD.then("upper"), TOLD.then("lower"), TOLD.then("count", 3),
                TOLD.then("finding"), TOLD.then("findings", 1), TOLD.tried("digest")
            };
            for (Scene other : others) {
                Edge.answers(77, other, "asked");
            }
        });
    }

    private static void fractions() {
        Edge.test("36: 0 before", () -> {
            Edge.changesNothing(0, Scene.NEW, "upper");
            Edge.changesNothing(0, Scene.store("t20t20").then("tick"), "upper");
        });
        Edge.test("37: 1 before", () -> {
            Edge.changesNothing(1, Scene.NEW, "lower");
            Edge.changesNothing(1, Scene.store("t20t20").then("tick"), "lower");
        });
        Edge.test("36, 37: what was told last, by odds() or mid()", () -> {
            Edge.changesNothing(11, TOLD, "upper");
            Edge.changesNothing(4, TOLD, "lower");
            Scene odds = TOLD.then("odds", 3, 0, 1);
            Edge.changesNothing(121, odds, "upper");
            Edge.changesNothing(144, odds, "lower");
            Edge.changesNothing(0, odds.then("mid", 0, 12), "upper");
            Edge.changesNothing(1, odds.then("mid", 0, 12), "lower");
        });
        Edge.test("36, 37: not by what was refused, nor by what asked() tells", () -> {
            Scene refused = TOLD.tried("odds", 64, 0, 0).tried("mid", 0, 13).then("tube", 0, 1).then("mean", 1);
            Edge.changesNothing(11, refused, "upper");
            Edge.changesNothing(4, refused, "lower");
        });
        Edge.test("36, 37: a STORE laid anew leaves them", () -> {
            Edge.changesNothing(11, TOLD.then("store", 0), "upper");
            Edge.changesNothing(4, TOLD.then("store", 0), "lower");
        });
    }

    private static void countRefused() {
        Edge.test("38: BAD: one below, one above", () -> {
            Edge.refused(Edge.BAD, RICH, "count", -1);
            Edge.refused(Edge.BAD, RICH, "count", 11);
            Edge.refused(Edge.BAD, RICH, "count", Edge.LOWEST);
            Edge.refused(Edge.BAD, RICH, "count", Edge.HIGHEST);
            Edge.refused(Edge.BAD, NO_TUBES, "count", 11);
        });
        Edge.test("38: all are 0 at first", () -> {
            for (int what = 0; what <= 10; what++) {
                Edge.changesNothing(0, Scene.NEW, "count", what);
            }
        });
    }

    private static void countOfTubes() {
        Scene full = Scene.store("t90".repeat(7)).words(511, 511, 511, 511, 511, 511, 511);
        Edge.test("38: 0 TUBES, 2 to 7", () -> {
            for (int tubes = 2; tubes <= 7; tubes++) {
                Edge.changesNothing(tubes, Scene.store("t20".repeat(tubes)), "count", 0);
            }
        });
        Edge.test("38: 1 the TICK, 0 to 40", () -> {
            Edge.changesNothing(0, Scene.store("t20t20").words(1), "count", 1);
            Edge.changesNothing(1, Scene.store("t20t20").then("tick"), "count", 1);
            Edge.changesNothing(40, Scene.store("t20t20").times(40, "tick"), "count", 1);
        });
        Edge.test("38: 2 DEEDS, 0 to 40", () -> {
            Edge.changesNothing(0, Scene.store("t20t20"), "count", 2);
            Edge.changesNothing(1, Scene.store("t20t20").words(1), "count", 2);
            Edge.changesNothing(40, Scenes.FULL_OF_DEEDS, "count", 2);
        });
        Edge.test("38: 3 PULSES in all, 0 to 63", () -> {
            Edge.changesNothing(0, Scene.store("t90t90"), "count", 3);
            Edge.changesNothing(1, Scene.store("t90t90").then("set", 1, 8), "count", 3);
            Edge.changesNothing(63, full, "count", 3);
        });
        Edge.test("38: 4 SLOTS in all, 4 to 63", () -> {
            Edge.changesNothing(4, Scene.store("t20t20"), "count", 4);
            Edge.changesNothing(63, full, "count", 4);
        });
        Edge.test("38: 5 TUBES that have no PULSE, by bits, 0 to 127", () -> {
            Edge.changesNothing(3, Scene.store("t20t20"), "count", 5);
            Edge.changesNothing(127, Scene.store("t90".repeat(7)), "count", 5);
            Edge.changesNothing(0, full, "count", 5);
            Edge.changesNothing(1, full.then("word", 0, 0), "count", 5);
            Edge.changesNothing(64, full.then("word", 6, 0), "count", 5);
            // one PULSE is not none
            Edge.changesNothing(0, full.then("word", 6, 256), "count", 5);
        });
        Edge.test("38: 9 WEAK ones, FLIP, too; 0 to 7", () -> {
            Edge.changesNothing(0, Scene.store("t20e20s20d20"), "count", 9);
            Edge.changesNothing(7, Scene.store("w20f20w20f20w20f20w20"), "count", 9);
            Edge.changesNothing(2, Scene.store(Scenes.ALL_KINDS), "count", 9);
        });
        Edge.test("38: 10 ECHOES, DULL ones, too; 0 to 7", () -> {
            Edge.changesNothing(0, Scene.store("t20w20s20f20"), "count", 10);
            Edge.changesNothing(7, Scene.store("e20d20e20d20e20d20e20"), "count", 10);
            Edge.changesNothing(2, Scene.store(Scenes.ALL_KINDS), "count", 10);
        });
    }

    private static void countOfTheRest() {
        Edge.test("38: 6 ROWS, 0 to 6, one of none, too", () -> {
            Scene rows = Scene.NEW;
            for (int r = 0; r <= 5; r++) {
                rows = rows.then("row", r, r == 3 ? 0 : 40);
                Edge.changesNothing(r + 1, rows, "count", 6);
            }
            Edge.changesNothing(5, rows.then("tear", 3), "count", 6);
            Edge.changesNothing(0, rows, "count", 7);
        });
        Edge.test("38: 7 TEXTS, 0 to 4, one of none, too", () -> {
            Scene texts = Scene.NEW;
            for (int t = 0; t <= 3; t++) {
                texts = texts.then("text", t, t == 2 ? 0 : 60);
                Edge.changesNothing(t + 1, texts, "count", 7);
            }
            Edge.changesNothing(0, texts, "count", 6);
        });
        Edge.test("38: 8 kept STORES, 0 to 3, one without DEEDS, too", () -> {
            Scene kept = Scene.store("t20t20");
            Edge.changesNothing(0, kept, "count", 8);
            for (int k = 0; k <= 2; k++) {
                kept = kept.then("keep", k);
                Edge.changesNothing(k + 1, kept, "count", 8);
            }
            Edge.changesNothing(3, kept.then("keep", 1), "count", 8);
            Edge.changesNothing(3, kept.then("on", 1), "count", 8);
        });
    }

    private static void finding() {
        Edge.test("39: 0 before any", () -> {
            Edge.changesNothing(0, Scene.NEW, "finding");
            Edge.changesNothing(0, Scene.store("t20t20").then("tick"), "finding");
        });
        Edge.test("39: 0 still behind what is refused otherwise, or NONE", () -> {
            Scene refused = Scene.NEW.tried("row", 6, 1).tried("tick").tried("on", 3);
            Edge.changesNothing(0, refused, "finding");
            Scene full = Scene.store("t20t20").times(40, "tick").tried("tick").tried("word", 0, 0).tried("best", 1);
            Edge.changesNothing(0, full, "finding");
        });
        Edge.test("39: the latest one, each of the five", () -> {
            Scene scene = Scene.NEW.tried("at", 0, 0);
            Edge.changesNothing(Edge.NOTHING, scene, "finding");
            scene = scene.then("row", 0, 0).tried("at", 0, 0);
            Edge.changesNothing(Edge.BEYOND, scene, "finding");
            scene = scene.tried("mean", 0);
            Edge.changesNothing(Edge.NOUGHT, scene, "finding");
            scene = scene.tried("row", 0, -1);
            Edge.changesNothing(Edge.SIZE, scene, "finding");
            scene = scene.text(0, "t20t20").then("store", 0).tried("mark", 0, 1);
            Edge.changesNothing(Edge.UNLIKE, scene, "finding");
            Edge.changesNothing(Edge.NOTHING, scene.tried("on", 0), "finding");
        });
        Edge.test("39: it stays behind what is not refused, or refused otherwise", () -> {
            Edge.changesNothing(Edge.UNLIKE, RICH.then("tick").then("row", 0, 1).tried("row", 6, 1).tried("store", 1), "finding");
            Edge.changesNothing(Edge.UNLIKE, RICH.then("store", 0).tried("fault", 0), "finding");
        });
    }

    private static void findings() {
        Edge.test("40: BAD: one below 1, one above 5", () -> {
            Edge.refused(Edge.BAD, RICH, "findings", 0);
            Edge.refused(Edge.BAD, RICH, "findings", 6);
            Edge.refused(Edge.BAD, RICH, "findings", -1);
            Edge.refused(Edge.BAD, RICH, "findings", Edge.LOWEST);
            Edge.refused(Edge.BAD, RICH, "findings", Edge.HIGHEST);
        });
        Edge.test("40: each 0 at first", () -> {
            for (int f = 1; f <= 5; f++) {
                Edge.changesNothing(0, Scene.NEW, "findings", f);
            }
        });
        Edge.test("40: how often, each by itself", () -> {
            Scene scene = Scene.NEW.tried("row", 0, -1).tried("text", 0, -1).tried("copy", 0, 0, 0, 0, -1)
                .tried("at", 0, 0).tried("tear", 0).then("row", 0, 0).tried("mean", 0).tried("at", 0, 0)
                .text(0, "t20t20").then("store", 0).tried("mark", 0, 1).tried("mark", 1, 2).tried("mark", 1, 3).tried("mark", 1, 4);
            int[] due = {2, 1, 4, 1, 3};
            for (int f = 1; f <= 5; f++) {
                Edge.changesNothing(due[f - 1], scene, "findings", f);
            }
        });
        Edge.test("40: more often than a byte can tell", () -> {
            Scene often = Scene.NEW.then("row", 0, 1);
            for (int n = 0; n < 300; n++) {
                often = often.tried("at", 0, 1);
            }
            Edge.answers(300, often, "findings", 2);
            Edge.answers(0, often, "findings", 1);
        });
        Edge.test("40: BAD, FULL, STATE, NONE are none", () -> {
            Scene scene = Scene.store("t20t20").times(40, "tick").tried("tick").tried("tube", 2, 0).tried("word", 0, 0)
                .tried("best", 1).tried("fault", 0);
            for (int f = 1; f <= 5; f++) {
                Edge.changesNothing(0, scene, "findings", f);
            }
        });
    }

    // ---- the digest

    /** h = 17, then h = 31 h + v for each v. */
    private static long fold(long h, long... values) {
        for (long v : values) {
            h = 31 * h + v;
        }
        return h;
    }

    private static void digestOfNew() {
        long none = fold(17, 0, 0, 0, 0, 0, 0, 0, 0, 0, 0, 0, -1, -1, -1, -1, -1, -1, -1, -1, -1, -1, -1, -1, -1);
        Edge.test("41: of a new object", () -> Edge.changesNothing(none, Scene.NEW, "digest"));
        Edge.test("41: what is told and found is not in it", () -> Edge.changesNothing(none, NO_TUBES, "digest"));
        Edge.test("41: again and again the same", () ->
            Edge.due("digest()", RICH.tried("digest").play().ask("digest"), RICH.play().ask("digest")));
    }

    private static void digestByParts() {
        Edge.test("41: a ROW of none is not one that is missing", () -> {
            long one = fold(17, 0, 0, 0, 0, 0, 0, 1, 0, 0, 0, 0, -1, -1, -1, 0, -1, -1, -1, -1, -1, -1, -1, -1, -1);
            Edge.changesNothing(one, Scene.NEW.then("row", 0, 0), "digest");
        });
        Edge.test("41: the last ROW with its places, the last TEXT with its bytes, as they are below 0, too", () -> {
            long rows = fold(17, 0, 0, 0, 0, 0, 0, 1, 0, 0, 0, 0, -1, -1, -1, -1, -1, -1, -1, -1, 2, -5, 7, -1, -1, -1, -1);
            Edge.changesNothing(rows, Scene.NEW.row(5, -5, 7), "digest");
            long texts = fold(17, 0, 0, 0, 0, 0, 0, 0, 1, 0, 0, 0, -1, -1, -1, -1, -1, -1, -1, -1, -1, -1, -1, -1, 2, 32, -56);
            Edge.changesNothing(texts, Scene.NEW.then("text", 3, 2).then("put", 3, 1, 200), "digest");
        });
        Edge.test("41: the least and the greatest int as they are", () -> {
            long rows = fold(17, 0, 0, 0, 0, 0, 0, 1, 0, 0, 0, 0, -1, -1, -1, 2, Edge.LOWEST, Edge.HIGHEST,
                -1, -1, -1, -1, -1, -1, -1, -1, -1);
            Edge.changesNothing(rows, Scene.NEW.row(0, Edge.LOWEST, Edge.HIGHEST), "digest");
        });
        Edge.test("41: what a ROW, a TEXT had ahead is not in it", () -> {
            Scene rows = Scene.NEW.row(0, 7, 8, 9).then("row", 0, 1);
            Edge.due("digest()", rows.play().ask("digest"), Scene.NEW.then("row", 0, 1).play().ask("digest"));
            Scene texts = Scene.NEW.text(0, "t20").then("text", 0, 1);
            Edge.due("digest()", texts.play().ask("digest"), Scene.NEW.then("text", 0, 1).play().ask("digest"));
        });
        Edge.test("41: of each kept STORE how many DEEDS, 0, too", () -> {
            long[] kept = {1, -1, 0};
            Scene scene = Scene.store("t20t20").then("keep", 2).then("tick").then("keep", 0);
            long h = fold(17, 2, 1, 1, 0, 4, 3, 0, 1, 2, 0, 0);
            h = fold(h, 0, 2, 0, 0, 0, 1, 0);
            h = fold(h, 0, 2, 0, 0, 1, 1, 0);
            h = fold(h, kept);
            h = fold(h, -1, -1, -1, -1, -1, -1);
            h = fold(h, 6, 't', '2', '0', 't', '2', '0', -1, -1, -1);
            Edge.changesNothing(h, scene, "digest");
        });
    }

    private static void digestOfAll() {
        Edge.test("41: of all there is, in its order", () -> {
            Played x = RICH.play();
            long h = 17;
            for (int what = 0; what <= 10; what++) {
                h = fold(h, x.ask("count", what));
            }
            for (int i = 0; i < 7; i++) {
                for (int what = 0; what <= 6; what++) {
                    h = fold(h, x.told("tube", i, what));
                }
            }
            h = fold(h, 9, -1, 10);
            h = fold(h, 3, 3, -1, 7, 0, 2, 1, 0, 21);
            h = fold(h, new long[21]);
            h = fold(h, -1, -1);
            h = fold(h, Scenes.ALL_KINDS.length());
            for (char sign : Scenes.ALL_KINDS.toCharArray()) {
                h = fold(h, sign);
            }
            h = fold(h, 3, 't', '3', '0', 0, -1);
            Edge.due("digest()", RICH.play().ask("digest"), h);
        });
        Edge.test("41: all full: seven TUBES, 40 DEEDS, three kept, six ROWS of 40, four TEXTS of 60", () -> {
            Scene full = Scene.store("d99".repeat(7) + " ".repeat(39)).times(33, "tick")
                .words(511, 511, 511, 511, 511, 511, 511).then("keep", 0).then("keep", 1).then("keep", 2);
            for (int r = 0; r <= 5; r++) {
                full = full.then("row", r, 40);
            }
            for (int t = 1; t <= 3; t++) {
                full = full.then("text", t, 60);
            }
            long h = fold(17, 7, 33, 40, 63, 63, 0, 6, 4, 3, 0, 7);
            for (int i = 0; i < 7; i++) {
                h = fold(h, 5, 9, 9, 511, i, 1, 1);
            }
            h = fold(h, 40, 40, 40);
            for (int r = 0; r <= 5; r++) {
                h = fold(fold(h, 40), new long[40]);
            }
            h = fold(h, 60);
            for (int i = 0; i < 7; i++) {
                h = fold(h, 'd', '9', '9');
            }
            long[] blanks = new long[60];
            java.util.Arrays.fill(blanks, 32);
            h = fold(h, java.util.Arrays.copyOf(blanks, 39));
            for (int t = 1; t <= 3; t++) {
                h = fold(fold(h, 60), blanks);
            }
            Edge.changesNothing(h, full, "digest");
        });
    }
}
