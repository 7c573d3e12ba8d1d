/** The edges of promises 1 to 13: a new object, rows, texts, stores. */
public final class EdgesOfRowsAndStores {
    private static final Scene RICH = Scenes.RICH;
    private static final Scene NO_TUBES = Scenes.NO_TUBES;

    public static void main(String[] args) {
        newObject();
        row();
        lay();
        at();
        tear();
        copyRefused();
        copyTaken();
        mean();
        text();
        put();
        fault();
        store();
        tubeRefused();
        tubeTaken();
        markRefused();
        markOfWeakAndSlow();
        markOfEchoes();
        markOfFlipAndDull();
        Edge.end();
    }

    private static void newObject() {
        Edge.test("1: no ROWS", () -> {
            Edge.answers(0, Scene.NEW, "count", 6);
            for (int r = 0; r <= 5; r++) {
                Edge.found(Edge.NOTHING, Scene.NEW, "at", r, 0);
            }
        });
        Edge.test("1: no TEXTS", () -> {
            Edge.answers(0, Scene.NEW, "count", 7);
            for (int t = 0; t <= 3; t++) {
                Edge.found(Edge.NOTHING, Scene.NEW, "put", t, 0, 65);
            }
        });
        Edge.test("1: no TUBES", () -> {
            Edge.answers(0, Scene.NEW, "count", 0);
            Edge.refused(Edge.BAD, Scene.NEW, "tube", 0, 0);
            Edge.refused(Edge.STATE, Scene.NEW, "tick");
        });
        Edge.test("1: one object knows nothing of another one", () -> {
            Played x = RICH.play();
            Played y = Scene.NEW.play();
            long h = x.ask("digest");
            Edge.due("row(0, 40)", y.ask("row", 0, 40), 40);
            Edge.due("text(0, 60)", y.ask("text", 0, 60), 60);
            Edge.due("store(0)", y.ask("store", 0), Edge.STATE);
            Edge.due("mean(1)", y.ask("mean", 1), Edge.FINDING);
            Edge.due("digest() of the first", x.ask("digest"), h);
            Edge.due("finding() of the first", x.ask("finding"), Edge.UNLIKE);
            Edge.due("count(0) of the other", y.ask("count", 0), 0);
            Edge.due("asked() of the other", y.ask("asked"), 0);
        });
    }

    private static void row() {
        Edge.test("2: the least and the greatest ROW, one below, one above", () -> {
            Edge.answers(3, RICH, "row", 0, 3);
            Edge.answers(3, RICH, "row", 5, 3);
            Edge.refused(Edge.BAD, RICH, "row", -1, 3);
            Edge.refused(Edge.BAD, RICH, "row", 6, 3);
            Edge.refused(Edge.BAD, RICH, "row", Edge.LOWEST, 3);
            Edge.refused(Edge.BAD, RICH, "row", Edge.HIGHEST, 3);
        });
        Edge.test("2: a ROW of none", () -> {
            Edge.answers(0, RICH, "row", 0, 0);
            Edge.found(Edge.BEYOND, RICH.then("row", 0, 0), "at", 0, 0);
        });
        Edge.test("2: a ROW of 40", () -> {
            Edge.answers(40, RICH, "row", 0, 40);
            Edge.tells(1, 0, RICH.then("row", 0, 40), "at", 0, 39);
            Edge.found(Edge.BEYOND, RICH.then("row", 0, 40), "at", 0, 40);
        });
        Edge.test("2: BAD: n above 40", () -> {
            Edge.refused(Edge.BAD, RICH, "row", 0, 41);
            Edge.refused(Edge.BAD, RICH, "row", 4, Edge.HIGHEST);
        });
        Edge.test("2: SIZE: n below 0", () -> {
            Edge.found(Edge.SIZE, RICH, "row", 0, -1);
            Edge.found(Edge.SIZE, RICH, "row", 4, Edge.LOWEST);
        });
        Edge.test("2: the ints are 0, also where a ROW was ahead", () -> {
            Played x = Scene.NEW.row(0, 7, 8, 9).then("row", 0, 1).then("row", 0, 3).play();
            for (int i = 0; i < 3; i++) {
                Edge.due("place " + i, x.told("at", 0, i), 0);
            }
        });
        Edge.test("2: a lesser ROW has no more places than told", () ->
            Edge.found(Edge.BEYOND, Scene.NEW.row(0, 7, 8, 9).then("row", 0, 1), "at", 0, 1));
        Edge.test("2: no other ROW changes, a ROW anew is one still", () -> {
            Edge.answers(4, RICH, "count", 6);
            Edge.answers(4, RICH.then("row", 0, 5), "count", 6);
            Edge.answers(5, RICH.then("row", 4, 5), "count", 6);
            Edge.tells(1, 1, RICH.then("row", 0, 5).then("row", 4, 5), "at", 2, 0);
        });
        Edge.test("2: asked() is left", () -> Edge.answers(7, RICH.then("row", 0, 5), "asked"));
    }

    private static void lay() {
        Edge.test("3: the first and the last place, one below, one above", () -> {
            Edge.answers(1, RICH, "lay", 0, 0, 5);
            Edge.answers(1, RICH, "lay", 0, 2, 5);
            Edge.found(Edge.BEYOND, RICH, "lay", 0, -1, 5);
            Edge.found(Edge.BEYOND, RICH, "lay", 0, 3, 5);
            Edge.found(Edge.BEYOND, RICH, "lay", 0, Edge.LOWEST, 5);
            Edge.found(Edge.BEYOND, RICH, "lay", 0, Edge.HIGHEST, 5);
        });
        Edge.test("3: place 39 of 40", () -> {
            Edge.answers(1, RICH.then("row", 5, 40), "lay", 5, 39, 5);
            Edge.found(Edge.BEYOND, RICH.then("row", 5, 40), "lay", 5, 40, 5);
        });
        Edge.test("3: BEYOND: any place of a ROW of none", () -> Edge.found(Edge.BEYOND, RICH, "lay", 1, 0, 5));
        Edge.test("3: NOTHING, ahead of BEYOND", () -> {
            Edge.found(Edge.NOTHING, RICH, "lay", 4, 0, 5);
            Edge.found(Edge.NOTHING, RICH, "lay", 4, -1, 5);
            Edge.found(Edge.NOTHING, RICH, "lay", 4, 40, 5);
        });
        Edge.test("3: BAD, one below and above the ROWS", () -> {
            Edge.refused(Edge.BAD, RICH, "lay", -1, 0, 5);
            Edge.refused(Edge.BAD, RICH, "lay", 6, 0, 5);
        });
        Edge.test("3: what it was is told, not what it is", () -> {
            Edge.due("lay(0, 1, 9)", RICH.play().told("lay", 0, 1, 9), -1);
            Edge.due("lay(0, 1, 8) behind it", RICH.then("lay", 0, 1, 9).play().told("lay", 0, 1, 8), 9);
        });
        Edge.test("3: the least and the greatest int", () -> {
            Scene least = RICH.then("lay", 0, 0, Edge.LOWEST);
            Edge.due("lay(0, 0, highest)", least.play().told("lay", 0, 0, Edge.HIGHEST), Edge.LOWEST);
            Edge.tells(1, Edge.HIGHEST, least.then("lay", 0, 0, Edge.HIGHEST), "at", 0, 0);
        });
        Edge.test("3: no other place changes", () -> {
            Edge.tells(1, 3, RICH.then("lay", 0, 1, 9), "at", 0, 0);
            Edge.tells(1, 7, RICH.then("lay", 0, 1, 9), "at", 0, 2);
            Edge.tells(1, 0, RICH.then("lay", 0, 1, 9), "at", 2, 1);
        });
    }

    private static void at() {
        Edge.test("4: the first and the last place, one below, one above", () -> {
            Edge.tells(1, 3, RICH, "at", 0, 0);
            Edge.tells(1, 7, RICH, "at", 0, 2);
            Edge.found(Edge.BEYOND, RICH, "at", 0, -1);
            Edge.found(Edge.BEYOND, RICH, "at", 0, 3);
            Edge.found(Edge.BEYOND, RICH, "at", 0, Edge.LOWEST);
            Edge.found(Edge.BEYOND, RICH, "at", 0, Edge.HIGHEST);
        });
        Edge.test("4: place 39 of 40", () -> {
            Scene most = RICH.then("row", 5, 40).then("lay", 5, 39, 6);
            Edge.tells(1, 6, most, "at", 5, 39);
            Edge.found(Edge.BEYOND, most, "at", 5, 40);
        });
        Edge.test("4: BEYOND: any place of a ROW of none", () -> Edge.found(Edge.BEYOND, RICH, "at", 1, 0));
        Edge.test("4: NOTHING, ahead of BEYOND", () -> {
            Edge.found(Edge.NOTHING, RICH, "at", 4, 0);
            Edge.found(Edge.NOTHING, RICH, "at", 4, -1);
            Edge.found(Edge.NOTHING, RICH, "at", 5, 40);
        });
        Edge.test("4: BAD, one below and above the ROWS", () -> {
            Edge.refused(Edge.BAD, RICH, "at", -1, 0);
            Edge.refused(Edge.BAD, RICH, "at", 6, 0);
        });
        Edge.test("4: a number below 0 is told, too", () -> Edge.tells(1, -1, RICH, "at", 0, 1));
    }

    private static void tear() {
        Edge.test("5: the least and the greatest ROW, one below, one above", () -> {
            Edge.answers(1, RICH, "tear", 0);
            Edge.answers(1, RICH.then("row", 5, 2), "tear", 5);
            Edge.refused(Edge.BAD, RICH, "tear", -1);
            Edge.refused(Edge.BAD, RICH, "tear", 6);
        });
        Edge.test("5: NOTHING: it is missing, never made or torn", () -> {
            Edge.found(Edge.NOTHING, RICH, "tear", 4);
            Edge.found(Edge.NOTHING, RICH.then("tear", 0), "tear", 0);
        });
        Edge.test("5: a ROW of none is torn, too", () -> {
            Edge.answers(1, RICH, "tear", 1);
            Edge.found(Edge.NOTHING, RICH.then("tear", 1), "tear", 1);
        });
        Edge.test("5: a torn ROW is missing to all", () -> {
            Scene torn = RICH.then("tear", 0);
            Edge.answers(3, torn, "count", 6);
            Edge.found(Edge.NOTHING, torn, "at", 0, 0);
            Edge.found(Edge.NOTHING, torn, "lay", 0, 0, 1);
            Edge.found(Edge.NOTHING, torn, "mean", 0);
            Edge.found(Edge.NOTHING, torn, "copy", 0, 0, 2, 0, 1);
            Edge.found(Edge.NOTHING, torn, "copy", 2, 0, 0, 0, 1);
            Edge.found(Edge.NOTHING, torn, "kinds", 0, 0);
        });
        Edge.test("5: a ROW made anew behind it has 0s", () ->
            Edge.tells(1, 0, RICH.then("tear", 0).then("row", 0, 3), "at", 0, 2));
        Edge.test("5: asked() is left", () -> Edge.answers(7, RICH.then("tear", 0), "asked"));
    }

    private static void copyRefused() {
        Scene two = RICH.then("row", 5, 40);
        Edge.test("6: BAD, either ROW one below or above", () -> {
            Edge.refused(Edge.BAD, two, "copy", -1, 0, 0, 0, 1);
            Edge.refused(Edge.BAD, two, "copy", 6, 0, 0, 0, 1);
            Edge.refused(Edge.BAD, two, "copy", 0, 0, -1, 0, 1);
            Edge.refused(Edge.BAD, two, "copy", 0, 0, 6, 0, 1);
        });
        Edge.test("6: BAD ahead of SIZE", () -> {
            Edge.refused(Edge.BAD, two, "copy", 6, 0, 0, 0, -1);
            Edge.refused(Edge.BAD, two, "copy", 0, 0, 6, 0, -1);
        });
        Edge.test("6: SIZE: n below 0", () -> {
            Edge.found(Edge.SIZE, two, "copy", 0, 0, 5, 0, -1);
            Edge.found(Edge.SIZE, two, "copy", 0, 0, 5, 0, Edge.LOWEST);
        });
        Edge.test("6: SIZE ahead of NOTHING and BEYOND", () -> {
            Edge.found(Edge.SIZE, two, "copy", 4, 0, 5, 0, -1);
            Edge.found(Edge.SIZE, two, "copy", 0, 9, 5, 99, -1);
        });
        Edge.test("6: NOTHING: the first one is missing", () -> Edge.found(Edge.NOTHING, two, "copy", 4, 0, 0, 0, 1));
        Edge.test("6: NOTHING: the other one is missing", () -> Edge.found(Edge.NOTHING, two, "copy", 0, 0, 4, 0, 1));
        Edge.test("6: NOTHING: either, with n 0, too", () -> {
            Edge.found(Edge.NOTHING, two, "copy", 4, 0, 4, 0, 0);
            Edge.found(Edge.NOTHING, two, "copy", 4, 0, 0, 0, 0);
            Edge.found(Edge.NOTHING, two, "copy", 0, 0, 4, 0, 0);
        });
        Edge.test("6: NOTHING ahead of BEYOND", () -> {
            Edge.found(Edge.NOTHING, two, "copy", 4, 9, 0, 9, 9);
            Edge.found(Edge.NOTHING, two, "copy", 0, 9, 4, 9, 9);
        });
        Edge.test("6: BEYOND: not so many in the first one", () -> {
            Edge.found(Edge.BEYOND, two, "copy", 0, 0, 5, 0, 4);
            Edge.found(Edge.BEYOND, two, "copy", 0, 1, 5, 0, 3);
            Edge.found(Edge.BEYOND, two, "copy", 0, 3, 5, 0, 1);
            Edge.found(Edge.BEYOND, two, "copy", 0, -1, 5, 0, 1);
            Edge.found(Edge.BEYOND, two, "copy", 0, Edge.LOWEST, 5, 0, 1);
            Edge.found(Edge.BEYOND, two, "copy", 5, 0, 5, 0, 41);
        });
        Edge.test("6: BEYOND: not so many in the other one", () -> {
            Edge.found(Edge.BEYOND, two, "copy", 5, 0, 0, 0, 4);
            Edge.found(Edge.BEYOND, two, "copy", 5, 0, 0, 1, 3);
            Edge.found(Edge.BEYOND, two, "copy", 5, 0, 0, 3, 1);
            Edge.found(Edge.BEYOND, two, "copy", 5, 0, 0, -1, 1);
            Edge.found(Edge.BEYOND, two, "copy", 5, 0, 0, Edge.LOWEST, 1);
            Edge.found(Edge.BEYOND, two, "copy", 5, 0, 1, 0, 1);
        });
        Edge.test("6: BEYOND: numbers whose sum is no int", () -> {
            Edge.found(Edge.BEYOND, two, "copy", 0, Edge.HIGHEST, 5, 0, 1);
            Edge.found(Edge.BEYOND, two, "copy", 0, 1, 5, 0, Edge.HIGHEST);
            Edge.found(Edge.BEYOND, two, "copy", 5, 0, 0, Edge.HIGHEST, 1);
            Edge.found(Edge.BEYOND, two, "copy", 0, Edge.HIGHEST, 5, Edge.HIGHEST, Edge.HIGHEST);
        });
        Edge.test("6: BEYOND: no places, from one on that there is not", () -> {
            Edge.found(Edge.BEYOND, two, "copy", 0, 4, 5, 0, 0);
            Edge.found(Edge.BEYOND, two, "copy", 0, -1, 5, 0, 0);
            Edge.found(Edge.BEYOND, two, "copy", 5, 0, 0, 4, 0);
            Edge.found(Edge.BEYOND, two, "copy", 5, 0, 0, -1, 0);
        });
    }

    private static void places(String call, Played x, int r, int... due) {
        for (int i = 0; i < due.length; i++) {
            Edge.due(call + ", place " + i + " of ROW " + r, x.told("at", r, i), due[i]);
        }
    }

    private static void copyTaken() {
        Scene five = Scene.NEW.row(0, 1, 2, 3, 4, 5).row(1, 6, 7, 8);
        Edge.test("6: no places at all: 1, and nothing changes", () -> {
            Edge.changesNothing(1, five, "copy", 0, 0, 1, 0, 0);
            Edge.changesNothing(1, five, "copy", 0, 5, 1, 3, 0);
            Edge.changesNothing(1, RICH, "copy", 1, 0, 1, 0, 0);
        });
        Edge.test("6: one place, the first and the last", () -> {
            places("copy(0, 0, 1, 2, 1)", five.then("copy", 0, 0, 1, 2, 1).play(), 1, 6, 7, 1);
            places("copy(0, 4, 1, 0, 1)", five.then("copy", 0, 4, 1, 0, 1).play(), 1, 5, 7, 8);
        });
        Edge.test("6: as many as there are, of either", () -> {
            places("copy(0, 2, 1, 0, 3)", five.then("copy", 0, 2, 1, 0, 3).play(), 1, 3, 4, 5);
            places("copy(1, 0, 0, 2, 3)", five.then("copy", 1, 0, 0, 2, 3).play(), 0, 1, 2, 6, 7, 8);
        });
        Edge.test("6: all 40 of 40", () -> {
            Scene most = Scene.NEW.then("row", 0, 40).then("lay", 0, 0, 3).then("lay", 0, 39, 4).then("row", 1, 40)
                .then("copy", 0, 0, 1, 0, 40);
            Edge.tells(1, 3, most, "at", 1, 0);
            Edge.tells(1, 4, most, "at", 1, 39);
        });
        Edge.test("6: what it is taken from stays", () ->
            places("copy(0, 2, 1, 0, 3)", five.then("copy", 0, 2, 1, 0, 3).play(), 0, 1, 2, 3, 4, 5));
        Edge.test("6: onto itself further on, as if taken ahead", () ->
            places("copy(0, 0, 0, 1, 4)", five.then("copy", 0, 0, 0, 1, 4).play(), 0, 1, 1, 2, 3, 4));
        Edge.test("6: onto itself further back, as if taken ahead", () ->
            places("copy(0, 1, 0, 0, 4)", five.then("copy", 0, 1, 0, 0, 4).play(), 0, 2, 3, 4, 5, 5));
        Edge.test("6: onto itself at the same place changes nothing", () ->
            Edge.changesNothing(1, five, "copy", 0, 0, 0, 0, 5));
    }

    private static void mean() {
        Edge.test("7: BAD, one below and above the ROWS", () -> {
            Edge.refused(Edge.BAD, RICH, "mean", -1);
            Edge.refused(Edge.BAD, RICH, "mean", 6);
        });
        Edge.test("7: NOTHING", () -> Edge.found(Edge.NOTHING, RICH, "mean", 4));
        Edge.test("7: NOUGHT: a ROW of none", () -> Edge.found(Edge.NOUGHT, RICH, "mean", 1));
        Edge.test("7: of one int that int", () -> {
            Edge.tells(1, Edge.LOWEST, Scene.NEW.row(0, Edge.LOWEST), "mean", 0);
            Edge.tells(1, Edge.HIGHEST, Scene.NEW.row(5, Edge.HIGHEST), "mean", 5);
        });
        Edge.test("7: cut, above 0", () -> {
            Edge.tells(1, 0, Scene.NEW.row(0, 1, 0), "mean", 0);
            Edge.tells(1, 1, Scene.NEW.row(0, 1, 1, 3), "mean", 0);
            Edge.tells(1, 2, Scene.NEW.row(0, 1, 1, 4), "mean", 0);
        });
        Edge.test("7: cut, below 0", () -> {
            Edge.tells(1, 0, Scene.NEW.row(0, -1, 0), "mean", 0);
            Edge.tells(1, -1, Scene.NEW.row(0, -1, -1, -3), "mean", 0);
            Edge.tells(1, -2, Scene.NEW.row(0, -1, -1, -4), "mean", 0);
        });
        Edge.test("7: a sum that is no int", () -> {
            int[] most = new int[40];
            int[] least = new int[40];
            for (int i = 0; i < 40; i++) {
                most[i] = Edge.HIGHEST;
                least[i] = Edge.LOWEST;
            }
            Edge.tells(1, Edge.HIGHEST, Scene.NEW.row(0, most), "mean", 0);
            Edge.tells(1, Edge.LOWEST, Scene.NEW.row(0, least), "mean", 0);
            Edge.tells(1, 0, Scene.NEW.row(0, Edge.HIGHEST, Edge.LOWEST), "mean", 0);
        });
    }

    private static void text() {
        Edge.test("8: the least and the greatest TEXT, one below, one above", () -> {
            Edge.answers(2, RICH, "text", 0, 2);
            Edge.answers(2, RICH, "text", 3, 2);
            Edge.refused(Edge.BAD, RICH, "text", -1, 2);
            Edge.refused(Edge.BAD, RICH, "text", 4, 2);
        });
        Edge.test("8: a TEXT of none, of 60", () -> {
            Edge.answers(0, RICH, "text", 0, 0);
            Edge.found(Edge.BEYOND, RICH.then("text", 0, 0), "put", 0, 0, 65);
            Edge.answers(60, RICH, "text", 0, 60);
            Edge.answers(1032, RICH.then("text", 0, 60), "put", 0, 59, 65);
            Edge.found(Edge.BEYOND, RICH.then("text", 0, 60), "put", 0, 60, 65);
        });
        Edge.test("8: BAD: n above 60", () -> {
            Edge.refused(Edge.BAD, RICH, "text", 0, 61);
            Edge.refused(Edge.BAD, RICH, "text", 3, Edge.HIGHEST);
        });
        Edge.test("8: SIZE: n below 0", () -> {
            Edge.found(Edge.SIZE, RICH, "text", 0, -1);
            Edge.found(Edge.SIZE, RICH, "text", 3, Edge.LOWEST);
        });
        Edge.test("8: the bytes are blanks, also where a TEXT was ahead", () -> {
            Scene anew = RICH.text(3, "t20t20").then("text", 3, 1).then("text", 3, 6);
            for (int i = 0; i < 6; i++) {
                Edge.answers(1032, anew, "put", 3, i, 65);
            }
        });
        Edge.test("8: a lesser TEXT has no more places than told", () ->
            Edge.found(Edge.BEYOND, RICH.text(3, "t20").then("text", 3, 1), "put", 3, 1, 65));
        Edge.test("8: no other TEXT changes, nor the STORE that was made by it", () -> {
            Scene anew = RICH.then("text", 0, 5);
            Edge.answers(1000 + 't', anew, "put", 1, 0, 65);
            Edge.answers(7, anew, "count", 0);
            Edge.answers(3, anew, "count", 7);
            Edge.answers(4, anew.then("text", 3, 0), "count", 7);
        });
    }

    private static void put() {
        Edge.test("9: the first and the last byte, one below, one above", () -> {
            Edge.answers(1000 + 't', RICH, "put", 1, 0, 65);
            Edge.answers(1000 + '0', RICH, "put", 1, 2, 65);
            Edge.found(Edge.BEYOND, RICH, "put", 1, -1, 65);
            Edge.found(Edge.BEYOND, RICH, "put", 1, 3, 65);
            Edge.found(Edge.BEYOND, RICH, "put", 1, Edge.LOWEST, 65);
            Edge.found(Edge.BEYOND, RICH, "put", 1, Edge.HIGHEST, 65);
        });
        Edge.test("9: BEYOND: any byte of a TEXT of none", () -> Edge.found(Edge.BEYOND, RICH, "put", 2, 0, 65));
        Edge.test("9: NOTHING, ahead of BEYOND", () -> {
            Edge.found(Edge.NOTHING, RICH, "put", 3, 0, 65);
            Edge.found(Edge.NOTHING, RICH, "put", 3, -1, 65);
            Edge.found(Edge.NOTHING, RICH, "put", 3, 60, 65);
        });
        Edge.test("9: BAD, one below and above the TEXTS", () -> {
            Edge.refused(Edge.BAD, RICH, "put", -1, 0, 65);
            Edge.refused(Edge.BAD, RICH, "put", 4, 0, 65);
        });
        Edge.test("9: cut to a byte, round about its ends", () -> {
            int[] given = {0, 127, 128, 255, 256, 257, -1, -128, -129, -256, 511, 512, Edge.HIGHEST, Edge.LOWEST};
            int[] due = {0, 127, -128, -1, 0, 1, -1, -128, 127, 0, -1, 0, -1, 0};
            for (int i = 0; i < given.length; i++) {
                Edge.answers(1000 + due[i], RICH.then("put", 1, 1, given[i]), "put", 1, 1, 65);
            }
        });
        Edge.test("9: no other byte changes, asked() neither", () -> {
            Scene other = RICH.then("put", 1, 1, 65);
            Edge.answers(1000 + 't', other, "put", 1, 0, 65);
            Edge.answers(1000 + '0', other, "put", 1, 2, 65);
            Edge.answers(7, other, "asked");
        });
    }

    private static void fault() {
        Edge.test("10: the least and the greatest TEXT, one below, one above", () -> {
            Edge.changesNothing(Edge.NONE, RICH, "fault", 0);
            Edge.changesNothing(0, RICH.then("text", 3, 0), "fault", 3);
            Edge.refused(Edge.BAD, RICH, "fault", -1);
            Edge.refused(Edge.BAD, RICH, "fault", 4);
        });
        Edge.test("10: NOTHING", () -> Edge.found(Edge.NOTHING, RICH, "fault", 3));
        Edge.test("10: a FAULT at the first place, at the last, at the end", () -> {
            Edge.changesNothing(0, RICH.text(3, "xt20t20"), "fault", 3);
            Edge.changesNothing(6, RICH.text(3, "t20t20x"), "fault", 3);
            Edge.changesNothing(7, RICH.text(3, "t20t20w"), "fault", 3);
            Edge.changesNothing(59, RICH.text(3, " ".repeat(59) + "x"), "fault", 3);
            Edge.changesNothing(60, RICH.text(3, " ".repeat(59) + "t"), "fault", 3);
        });
        Edge.test("10: NONE: there is none", () -> {
            Edge.changesNothing(Edge.NONE, RICH.text(3, "t20t20"), "fault", 3);
            Edge.changesNothing(Edge.NONE, RICH.text(3, "d99d99d99d99d99d99d99"), "fault", 3);
        });
        Edge.test("10: what comes is told as before behind a FAULT", () -> {
            Scene looked = RICH.then("fault", 1);
            Edge.due("later(6, 9)", looked.play().ask("later", 6, 9), RICH.play().ask("later", 6, 9));
            Edge.due("duel(2)", looked.play().ask("duel", 2), RICH.play().ask("duel", 2));
        });
    }

    private static void store() {
        Edge.test("11: the least and the greatest TEXT, one below, one above", () -> {
            Edge.answers(7, RICH, "store", 0);
            Edge.answers(2, RICH.text(3, "t20t20"), "store", 3);
            Edge.refused(Edge.BAD, RICH, "store", -1);
            Edge.refused(Edge.BAD, RICH, "store", 4);
        });
        Edge.test("11: NOTHING", () -> Edge.found(Edge.NOTHING, RICH, "store", 3));
        Edge.test("11: STATE: a FAULT; the STORE, its DEEDS and the kept ones stay", () -> {
            Edge.refused(Edge.STATE, RICH, "store", 1);
            Edge.refused(Edge.STATE, RICH, "store", 2);
            Edge.refused(Edge.STATE, RICH.text(3, "t20".repeat(8)), "store", 3);
        });
        Edge.test("11: STATE without TUBES ahead: there are none still", () -> {
            Edge.refused(Edge.STATE, NO_TUBES.text(0, "t20"), "store", 0);
            Edge.answers(0, NO_TUBES.text(0, "t20").tried("store", 0), "count", 0);
        });
        Edge.test("11: 2 and 7 TUBES are answered", () -> {
            Edge.answers(2, NO_TUBES.text(0, "t20t20"), "store", 0);
            Edge.answers(7, NO_TUBES.text(0, "t20".repeat(7)), "store", 0);
        });
        Edge.test("11: anew: TICK 0, no DEEDS, no PULSES, WAYS to themselves", () -> {
            Scene anew = RICH.then("store", 0);
            Edge.answers(0, anew, "count", 1);
            Edge.answers(0, anew, "count", 2);
            Edge.answers(0, anew, "count", 3);
            for (int i = 0; i < 7; i++) {
                Edge.tells(1, 0, anew, "tube", i, 3);
                Edge.tells(1, i, anew, "tube", i, 4);
            }
            Edge.refused(Edge.BAD, anew, "undo", 1);
        });
        Edge.test("11: kept STORES go", () -> {
            Scene anew = RICH.then("keep", 1).then("store", 0);
            Edge.answers(0, anew, "count", 8);
            for (int k = 0; k <= 2; k++) {
                Edge.found(Edge.NOTHING, anew, "on", k);
            }
        });
        Edge.test("11: fewer TUBES than ahead: the others are none", () -> {
            Scene fewer = RICH.text(3, "w20t90").then("store", 3);
            Edge.answers(2, fewer, "count", 0);
            Edge.answers(11, fewer, "count", 4);
            Edge.refused(Edge.BAD, fewer, "tube", 2, 0);
        });
        Edge.test("11: ROWS, TEXTS, what is told and found stay", () -> {
            Scene anew = RICH.then("store", 0);
            Edge.answers(4, anew, "count", 6);
            Edge.answers(3, anew, "count", 7);
            Edge.answers(7, anew, "asked");
            Edge.answers(Edge.UNLIKE, anew, "finding");
            Edge.due("upper()", anew.play().ask("upper"), RICH.play().ask("upper"));
        });
        Edge.test("11: another TEXT then is another matter", () ->
            Edge.tells(1, 0, RICH.then("put", 0, 0, 'w'), "tube", 0, 0));
    }

    private static void tubeRefused() {
        Edge.test("12: BAD: a TUBE one below, one above", () -> {
            Edge.refused(Edge.BAD, RICH, "tube", -1, 0);
            Edge.refused(Edge.BAD, RICH, "tube", 7, 0);
            Edge.refused(Edge.BAD, RICH, "tube", Edge.LOWEST, 0);
            Edge.refused(Edge.BAD, RICH, "tube", Edge.HIGHEST, 0);
            Edge.refused(Edge.BAD, Scene.store("t20t20"), "tube", 2, 0);
        });
        Edge.test("12: BAD: a number of what is told one below, one above", () -> {
            Edge.refused(Edge.BAD, RICH, "tube", 0, -1);
            Edge.refused(Edge.BAD, RICH, "tube", 0, 7);
            Edge.refused(Edge.BAD, RICH, "tube", 0, Edge.LOWEST);
            Edge.refused(Edge.BAD, RICH, "tube", 0, Edge.HIGHEST);
        });
        Edge.test("12: BAD: no TUBES", () -> {
            for (int what = 0; what <= 6; what++) {
                Edge.refused(Edge.BAD, NO_TUBES, "tube", 0, what);
            }
        });
    }

    private static void tubeTaken() {
        Edge.test("12: 0 the KIND of the first and the last TUBE", () -> {
            Scene ends = Scene.store("d20t20t20t20t20t20f20");
            Edge.tells(1, 5, ends, "tube", 0, 0);
            Edge.tells(1, 4, ends, "tube", 6, 0);
        });
        Edge.test("12: 3 the WORD, from 0 to 511", () -> {
            Edge.tells(1, 0, Scene.store("t90t20"), "tube", 0, 3);
            Edge.tells(1, 511, Scene.store("t90t20").words(511), "tube", 0, 3);
        });
        Edge.test("12: 4 to which TUBE its WAY leads, not which leads to it", () -> {
            Scene ring = Scenes.ring("t20t20t20", 3);
            Edge.tells(1, 1, ring, "tube", 0, 4);
            Edge.tells(1, 2, ring, "tube", 1, 4);
            Edge.tells(1, 0, ring, "tube", 2, 4);
        });
        Edge.test("12: 5 whether it is READY", () -> {
            Edge.tells(1, 1, Scene.store("s20t20"), "tube", 0, 5);
            Edge.tells(1, 0, Scene.store("s20t20").then("tick"), "tube", 0, 5);
            Edge.tells(1, 1, Scene.store("s20t20").then("tick"), "tube", 1, 5);
        });
        Edge.test("12: 6 what would be SENT in now, to one that is not READY, too", () -> {
            Scene led = Scene.store("s30t30").then("swap", 0, 1).then("tick").words(0, 1);
            Edge.tells(1, 1, led, "tube", 0, 6);
        });
        Edge.test("12: 6 by what would come out: of one that is not READY nothing", () -> {
            Scene led = Scene.store("s30t30").then("swap", 0, 1).then("tick").words(1);
            Edge.tells(1, 0, led, "tube", 1, 6);
            Scene itself = Scene.store("s30t30").then("tick").words(1);
            Edge.tells(1, 0, itself, "tube", 0, 6);
            // a FLIP one makes a PULSE of the nothing that comes
            Scene flip = Scene.store("f31s30").then("swap", 0, 1).times(3, "tick").words(0, 7);
            Edge.tells(1, 1, flip, "tube", 0, 6);
        });
        Edge.test("12: 6 of the TUBE whose WAY leads to it, not of that to which its own leads", () -> {
            Scene ring = Scenes.ring("t20t20t20", 3).words(1);
            Edge.tells(1, 0, ring, "tube", 0, 6);
            Edge.tells(1, 1, ring, "tube", 1, 6);
            Edge.tells(1, 0, ring, "tube", 2, 6);
        });
    }

    private static void markRefused() {
        Edge.test("13: BAD: a TUBE one below, one above", () -> {
            Edge.refused(Edge.BAD, RICH, "mark", -1, 1);
            Edge.refused(Edge.BAD, RICH, "mark", 7, 1);
            Edge.refused(Edge.BAD, NO_TUBES, "mark", 0, 1);
        });
        Edge.test("13: BAD: KIND 0, one below, one above", () -> {
            Edge.refused(Edge.BAD, RICH, "mark", 0, 0);
            Edge.refused(Edge.BAD, RICH, "mark", 1, 0);
            Edge.refused(Edge.BAD, RICH, "mark", 1, -1);
            Edge.refused(Edge.BAD, RICH, "mark", 5, 6);
            Edge.refused(Edge.BAD, RICH, "mark", 5, Edge.HIGHEST);
        });
        Edge.test("13: UNLIKE: one of another KIND; a FLIP one IS a WEAK one, a DULL one an ECHO, not the other way", () -> {
            // TUBES 0 .. 5 are of KINDS 0 .. 5
            boolean[][] is = new boolean[6][6];
            is[1][1] = true;
            is[2][2] = true;
            is[3][3] = true;
            is[4][4] = true;
            is[4][1] = true;
            is[5][5] = true;
            is[5][2] = true;
            for (int i = 0; i < 6; i++) {
                for (int kind = 1; kind <= 5; kind++) {
                    if (is[i][kind]) {
                        long got = RICH.play().ask("mark", i, kind);
                        Edge.due("mark(" + i + ", " + kind + ") is not refused", got >= 0 ? 1 : 0, 1);
                    } else {
                        Edge.found(Edge.UNLIKE, RICH, "mark", i, kind);
                    }
                }
            }
        });
    }

    private static void markOfWeakAndSlow() {
        Edge.test("13: a WEAK one, a FLIP one: behind how many TICKS, 0 to as many as its MARK and 1", () -> {
            for (int mark = 0; mark <= 9; mark++) {
                int every = mark + 2;
                Scene scene = Scene.store("w2" + mark + "f2" + mark);
                int[] ticks = {0, 1, every - 1, every, every + 1};
                int[] due = {0, every - 1, 1, 0, every - 1};
                for (int t = 0; t < ticks.length; t++) {
                    Edge.changesNothing(due[t], scene.times(ticks[t], "tick"), "mark", 0, 1);
                    Edge.changesNothing(due[t], scene.times(ticks[t], "tick"), "mark", 1, 1);
                }
            }
        });
        Edge.test("13: a SLOW one: two TICKS for each SLOT, from either TICK on", () -> {
            for (int length = 2; length <= 9; length++) {
                Scene scene = Scene.store("s" + length + "0t20");
                Edge.changesNothing(2 * length, scene, "mark", 0, 3);
                Edge.changesNothing(2 * length, scene.then("tick"), "mark", 0, 3);
            }
        });
    }

    private static void markOfEchoes() {
        Scene echo = Scene.store("e31d31").words(4, 4);
        Edge.test("13: an ECHO: alike for both in a TICK that its MARK and 2 divides, if its last SLOT has a PULSE", () -> {
            Edge.changesNothing(1, echo, "mark", 0, 2);
            Edge.changesNothing(1, echo.times(3, "tick"), "mark", 0, 2);
        });
        Edge.test("13: an ECHO: not alike one TICK ahead and behind, nor without a last one", () -> {
            Edge.changesNothing(0, echo.times(2, "tick").then("word", 0, 4), "mark", 0, 2);
            Edge.changesNothing(0, echo.times(4, "tick").then("word", 0, 4), "mark", 0, 2);
            Edge.changesNothing(0, echo.then("word", 0, 3), "mark", 0, 2);
        });
        Edge.test("13: a DULL one as an ECHO: alike with a last one as that", () -> {
            Edge.changesNothing(1, echo, "mark", 1, 2);
            Edge.changesNothing(0, echo.times(2, "tick").then("word", 1, 4), "mark", 1, 2);
            Edge.changesNothing(0, echo.times(4, "tick").then("word", 1, 4), "mark", 1, 2);
        });
        Edge.test("13: a DULL one as an ECHO: alike without a last one in TICKS that 3 divides", () -> {
            Scene dull = Scene.store("d30t20");
            int[] due = {1, 0, 0, 1, 0, 0, 1};
            for (int tick = 0; tick < due.length; tick++) {
                Edge.changesNothing(due[tick], dull.times(tick, "tick"), "mark", 0, 2);
            }
        });
    }

    private static void markOfFlipAndDull() {
        Edge.test("13: a FLIP one: otherwise than a WEAK one for nothing in a TICK that its MARK and 2 divides", () -> {
            Scene flip = Scene.store("f31t30").then("swap", 0, 1);
            int[] due = {1, 0, 0, 1, 0};
            for (int tick = 0; tick < due.length; tick++) {
                Edge.changesNothing(due[tick], flip.times(tick, "tick").tried("word", 1, 0), "mark", 0, 4);
                Edge.changesNothing(0, flip.times(tick, "tick").tried("word", 1, 7), "mark", 0, 4);
            }
        });
        Edge.test("13: a DULL one: otherwise than an ECHO for a PULSE in a TICK that 3 divides, without a last one", () -> {
            Scene dull = Scene.store("d39t30").then("swap", 0, 1);
            int[] due = {1, 0, 0, 1, 0};
            for (int tick = 0; tick < due.length; tick++) {
                Scene then = dull.times(tick, "tick").then("word", 0, 3);
                Edge.changesNothing(due[tick], then.then("word", 1, 7), "mark", 0, 5);
                Edge.changesNothing(0, then.then("word", 1, 7).then("word", 1, 0), "mark", 0, 5);
                Edge.changesNothing(0, then.then("word", 1, 7).then("word", 0, 4), "mark", 0, 5);
            }
        });
    }
}
