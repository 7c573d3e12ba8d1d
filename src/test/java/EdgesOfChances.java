/** The edges of promises 28 to 34: which tube, which word it was, by turns, chances, lots. */
public final class EdgesOfChances {
    private static final Scene RICH = Scenes.RICH;
    private static final Scene NO_TUBES = Scenes.NO_TUBES;
    private static final Scene FULL_OF_DEEDS = Scenes.FULL_OF_DEEDS;

    public static void main(String[] args) {
        heardRefused("28", "kinds");
        kinds();
        heardRefused("29", "words");
        words();
        heardRefused("30", "test");
        test();
        duelRefused();
        duelTaken();
        oddsRefused();
        oddsTaken();
        mid();
        lotsRefused();
        lotsFull();
        lotsTaken();
        lotsByOne();
        Edge.end();
    }

    // ---- which tube, which word it was

    private static void heardRefused(String promise, String call) {
        Edge.test(promise + ": BAD: a TUBE one below, one above; no TUBES", () -> {
            Edge.refused(Edge.BAD, RICH, call, -1, 2);
            Edge.refused(Edge.BAD, RICH, call, 7, 2);
            Edge.refused(Edge.BAD, RICH, call, Edge.LOWEST, 2);
            Edge.refused(Edge.BAD, RICH, call, Edge.HIGHEST, 2);
            Edge.refused(Edge.BAD, NO_TUBES.row(2, 1), call, 0, 2);
        });
        Edge.test(promise + ": BAD: a ROW one below, one above", () -> {
            Edge.refused(Edge.BAD, RICH, call, 0, -1);
            Edge.refused(Edge.BAD, RICH, call, 0, 6);
        });
        Edge.test(promise + ": BAD ahead of NOTHING, SIZE, UNLIKE", () -> {
            Edge.refused(Edge.BAD, RICH, call, 7, 4);
            Edge.refused(Edge.BAD, RICH, call, 7, 1);
            Edge.refused(Edge.BAD, RICH, call, 7, 0);
        });
        Edge.test(promise + ": NOTHING: the ROW is missing", () -> {
            Edge.found(Edge.NOTHING, RICH, call, 0, 4);
            Edge.found(Edge.NOTHING, RICH, call, 6, 5);
        });
        Edge.test(promise + ": SIZE: none", () -> Edge.found(Edge.SIZE, RICH, call, 0, 1));
        Edge.test(promise + ": SIZE: more than 20", () -> {
            Edge.found(Edge.SIZE, RICH, call, 0, 3);
            Edge.found(Edge.SIZE, RICH.then("row", 3, 40), call, 0, 3);
        });
        Edge.test(promise + ": SIZE ahead of UNLIKE", () ->
            Edge.found(Edge.SIZE, RICH.then("lay", 3, 0, 2), call, 0, 3));
        Edge.test(promise + ": UNLIKE: one below 0, one above 1, at the first and the last place", () -> {
            int[] none = {-1, 2, Edge.LOWEST, Edge.HIGHEST};
            for (int v : none) {
                Edge.found(Edge.UNLIKE, RICH.row(5, v, 0, 1), call, 0, 5);
                Edge.found(Edge.UNLIKE, RICH.row(5, 0, 1, v), call, 0, 5);
                Edge.found(Edge.UNLIKE, RICH.then("row", 5, 20).then("lay", 5, 19, v), call, 0, 5);
                Edge.found(Edge.UNLIKE, RICH.row(5, v), call, 0, 5);
            }
        });
        Edge.test(promise + ": what a longer ROW had ahead does not count", () -> {
            Scene scene = Scene.store("t90t20").row(0, 0, 0, 9).then("row", 0, 2);
            Edge.due(call + "(0, 0)", scene.play().ask(call, 0, 0) > 0 ? 1 : 0, 1);
        });
        Edge.test(promise + ": by what is in the ROW, whichever it is, of the TUBE, whichever it is", () -> {
            // one SLOW TUBE, one of another LENGTH; a ROW of the number of each
            Scene store = Scene.store("s30t51w40t20f61e72t90").words(5, 9, 3, 1, 33, 65, 257);
            for (int i = 0; i < 7; i++) {
                for (int r = 0; r < 6; r++) {
                    Played x = store.row(r, 1, 0, 0).play();
                    Played y = store.row((r + 1) % 6, 1, 0, 0).play();
                    Edge.due(call + " of TUBE " + i, x.ask(call, i, r), y.ask(call, i, (r + 1) % 6));
                    Edge.due("asked()", x.ask("asked"), y.ask("asked"));
                }
            }
        });
        Edge.test(promise + ": one number, 20 numbers are taken", () -> {
            Scene bare = Scene.store("t90t20");
            Edge.due("one", bare.then("row", 0, 1).play().ask(call, 0, 0) > 0 ? 1 : 0, 1);
            Edge.due("twenty", bare.then("row", 0, 20).play().ask(call, 0, 0) > 0 ? 1 : 0, 1);
        });
    }

    private static int[] again(int n, int... pattern) {
        int[] row = new int[n];
        for (int i = 0; i < n; i++) {
            row[i] = pattern[i % pattern.length];
        }
        return row;
    }

    /** Two TUBES that lead to one another. */
    private static Scene swapped(String text, int... words) {
        return Scene.store(text).then("swap", 0, 1).words(words);
    }

    private static void kinds() {
        Edge.test("28: all KINDS, no KIND", () -> {
            Edge.changesNothing(63, Scene.store("t30t20").words(1).row(0, 1), "kinds", 0, 0);
            Edge.changesNothing(0, Scene.store("t30t20").words(1).row(0, 0), "kinds", 0, 0);
        });
        Edge.test("28: each KIND is told from the others, by what is sent in TICKS struck", () -> {
            // MARK 1, the WORD 1: TICKS 0, 3 are struck; a WEAK, a FLIP, a DULL one lose the PULSE in TICK 0
            Scene scene = Scene.store("t31t20").words(1);
            Edge.changesNothing(1 + 4 + 8, scene.row(0, 1, 0, 0, 1), "kinds", 0, 0);
            Edge.changesNothing(2 + 16 + 32, scene.row(0, 1, 0, 0, 0), "kinds", 0, 0);
            Edge.changesNothing(16, scene.row(0, 1, 0, 0, 0, 0, 0, 1), "kinds", 0, 0);
        });
        Edge.test("28: each KIND alone, from the first to the last", () -> {
            Edge.changesNothing(1, swapped("t20t30", 3, 3).row(0, 1, 1, 1, 1, 0), "kinds", 0, 0);
            Edge.changesNothing(2, swapped("t20t30", 2, 1).row(0, 0, 1, 0, 0, 0), "kinds", 0, 0);
            Edge.changesNothing(4, swapped("t21t30", 0, 7).row(0, 0, 0, 1, 1, 1, 1), "kinds", 0, 0);
            Edge.changesNothing(8, swapped("t21t20", 1, 0).row(0, 1, 0, 0, 1), "kinds", 0, 0);
            Edge.changesNothing(16, swapped("t20t30", 1, 2).row(0, 1, 0, 1), "kinds", 0, 0);
            Edge.changesNothing(32, swapped("t20t30", 1, 5).row(0, 1, 0, 0, 0, 1), "kinds", 0, 0);
        });
        Edge.test("28: the TICKS in which it MOVES alone: a SLOW one tells 20 in 39 TICKS, or 40", () -> {
            Scene scene = Scene.store("s20t20").words(1);
            Edge.changesNothing(1 + 4 + 8, scene.row(0, again(20, 1, 0)), "kinds", 0, 0);
            // from TICK 1 on the SLOW one tells its first in TICK 2
            Scene odd = Scene.store("s20t20").then("tick").words(1);
            Edge.due("bit 3", odd.row(0, again(20, 1, 0)).play().ask("kinds", 0, 0) >> 3 & 1, 1);
            Edge.due("bit 3, the last one otherwise",
                odd.row(0, again(20, 1, 0)).then("lay", 0, 19, 1).play().ask("kinds", 0, 0) >> 3 & 1, 0);
        });
        Edge.test("28: the last of 20 counts", () -> {
            Scene scene = Scene.store("t20t20").words(1);
            Edge.due("bit 0", scene.row(0, again(20, 1, 0)).play().ask("kinds", 0, 0) & 1, 1);
            Edge.due("bit 0, the last one otherwise",
                scene.row(0, again(20, 1, 0)).then("lay", 0, 19, 1).play().ask("kinds", 0, 0) & 1, 0);
        });
        Edge.test("28: all else as it is: WAYS, other TUBES, the MARK, the TICK", () -> {
            // what comes to TUBE 0 is TUBE 1's, which has PULSES alone; a WEAK, a FLIP, a DULL one lose that of TICK 0
            Scene led = Scene.store("t20t90").then("swap", 0, 1).words(0, 511);
            Edge.changesNothing(1 + 4 + 8, led.row(0, 0, 0, 1), "kinds", 0, 0);
            Edge.changesNothing(2 + 16 + 32, led.row(0, 0, 0, 0), "kinds", 0, 0);
            // in TICK 1 none is struck
            Scene next = Scene.store("t20t90").then("swap", 0, 1).then("tick").words(0, 511);
            Edge.changesNothing(63, next.row(0, 0, 0, 1), "kinds", 0, 0);
        });
        Edge.test("28: the first and the last TUBE, the first and the last ROW", () -> {
            Scene seven = Scene.store("t30".repeat(7)).words(1).row(0, 1).row(5, 0);
            Edge.changesNothing(63, seven, "kinds", 0, 0);
            Edge.changesNothing(0, seven, "kinds", 0, 5);
            Edge.changesNothing(0, seven, "kinds", 6, 0);
            Edge.changesNothing(63, seven, "kinds", 6, 5);
        });
    }

    private static void words() {
        Edge.test("29: half of all WORDS by one number; the least 0, or 1", () -> {
            for (int length = 2; length <= 9; length++) {
                Scene scene = Scene.store("t" + length + "0t20");
                Edge.tells(1 << length - 1, 0, scene.row(0, 0), "words", 0, 0);
                Edge.tells(1 << length - 1, 1, scene.row(0, 1), "words", 0, 0);
            }
        });
        Edge.test("29: one WORD by as many as there are SLOTS: 0, and the greatest", () -> {
            for (int length = 2; length <= 9; length++) {
                Scene scene = Scene.store("t" + length + "0t20");
                Edge.tells(1, 0, scene.row(0, again(length, 0)), "words", 0, 0);
                Edge.tells(1, (1 << length) - 1, scene.row(0, again(length, 1)), "words", 0, 0);
            }
        });
        Edge.test("29: two WORDS, by one number less; the least is told", () -> {
            Edge.tells(2, 255, Scene.store("t90t20").row(0, again(8, 1)), "words", 0, 0);
            Edge.tells(2, 1, Scene.store("t20t20").row(0, 1), "words", 0, 0);
        });
        Edge.test("29: NONE: none; asked() is left", () -> {
            // a TUBE of two SLOTS that leads to itself tells alike in every second TICK
            Scene none = Scene.store("t20t20").row(0, 1, 0, 0).row(1, 77).then("at", 1, 0);
            Edge.changesNothing(Edge.NONE, none, "words", 0, 0);
            Edge.answers(77, none.tried("words", 0, 0), "asked");
        });
        Edge.test("29: whichever WORD it has", () -> {
            Edge.tells(2, 2, Scene.store("t30t20").words(5).row(0, 0, 1), "words", 0, 0);
            Edge.tells(2, 2, Scene.store("t30t20").row(0, 0, 1), "words", 0, 0);
        });
        Edge.test("29: all else as it is: the TICK, for each WORD that is tried", () -> {
            // a WEAK one of two SLOTS: what comes out in TICKS 0, 2 is lost, in TICKS 1, 3 it is not
            Scene weak = Scene.store("w20t20");
            Edge.tells(1, 2, weak.row(0, 0, 1, 0, 1), "words", 0, 0);
            Edge.tells(1, 3, weak.row(0, 1, 1, 0, 1), "words", 0, 0);
            Edge.tells(1, 1, weak.then("tick").row(0, 1, 0, 1, 0), "words", 0, 0);
            Edge.tells(1, 3, weak.then("tick").row(0, 1, 1, 1, 0), "words", 0, 0);
        });
        Edge.test("29: all else as it is: WAYS, other TUBES, for each WORD that is tried", () -> {
            // what comes to TUBE 0 is what TUBE 1 has, and the other way
            Scene led = Scene.store("t20t30").then("swap", 0, 1).words(0, 5);
            Edge.tells(1, 0, led.row(0, 0, 0, 1, 0, 1), "words", 0, 0);
            Edge.tells(1, 3, led.row(0, 1, 1, 1, 0, 1), "words", 0, 0);
            Edge.tells(1, 2, led.row(0, 0, 1, 1, 0, 1, 0, 1, 1), "words", 0, 0);
            Edge.changesNothing(Edge.NONE, led.row(0, 0, 0, 0), "words", 0, 0);
        });
        Edge.test("29: of a SLOW one by the TICKS in which it MOVES", () -> {
            Edge.tells(1, 5, Scene.store("s30t20").row(0, again(20, 1, 0, 1)), "words", 0, 0);
            Edge.tells(1, 5, Scene.store("s30t20").then("tick").row(0, again(20, 1, 0, 1)), "words", 0, 0);
        });
        Edge.test("29: the last of 20 counts", () ->
            Edge.changesNothing(Edge.NONE, Scene.store("t20t20").row(0, again(20, 1, 0)).then("lay", 0, 19, 1), "words", 0, 0));
    }

    private static void test() {
        Edge.test("30: NONE: there is no KIND; asked() is left", () -> {
            Scene none = Scene.store("t30t20").words(1).row(0, 0).row(1, 77).then("at", 1, 0);
            Edge.changesNothing(Edge.NONE, none, "test", 0, 0);
            Edge.answers(77, none.tried("test", 0, 0), "asked");
        });
        Edge.test("30: behind 1 TICK, the least: one KIND is told apart at once", () ->
            Edge.tells(1, 1, Scene.store("t31t20").words(1).row(0, 1, 0, 0, 0, 0, 0, 1), "test", 0, 0));
        Edge.test("30: one KIND alone, the first and the last: a part of 1", () -> {
            Edge.tells(1, 1, swapped("t20t30", 3, 3).row(0, 1, 1, 1, 1, 0), "test", 0, 0);
            Edge.tells(1, 1, swapped("t20t30", 1, 5).row(0, 1, 0, 0, 0, 1), "test", 0, 0);
        });
        Edge.test("30: behind 1 TICK, the first of those alike", () -> {
            // nothing ever comes: all but FLIP ones are alike always
            Edge.tells(1, 5, Scene.store("t20t20").row(0, 0, 0, 0), "test", 0, 0);
        });
        Edge.test("30: behind 20 TICKS, the most", () ->
            Edge.tells(20, 1, Scene.store("e40d32").words(12, 7).row(0, 0, 0, 1), "test", 0, 0));
        Edge.test("30: behind 21 TICKS it would be better, but that is none", () ->
            Edge.tells(6, 2, Scene.store("t73s91").words(64, 223).row(0, 0, 0), "test", 0, 0));
        Edge.test("30: those KINDS alone that it can be of", () -> {
            Scene scene = Scene.store("t31t20").words(1);
            Edge.tells(1, 3, scene.row(0, 1, 0, 0), "test", 0, 0);
            Edge.tells(2, 2, scene.row(0, 1, 0, 0, 1), "test", 0, 0);
        });
    }

    // ---- by turns

    private static void duelRefused() {
        Edge.test("31: BAD: fewer turns than 0, more than 3", () -> {
            Edge.refused(Edge.BAD, RICH, "duel", -1);
            Edge.refused(Edge.BAD, RICH, "duel", 4);
            Edge.refused(Edge.BAD, RICH, "duel", Edge.LOWEST);
            Edge.refused(Edge.BAD, RICH, "duel", Edge.HIGHEST);
        });
        Edge.test("31: STATE: no TUBES, behind BAD", () -> {
            Edge.refused(Edge.STATE, NO_TUBES, "duel", 0);
            Edge.refused(Edge.STATE, NO_TUBES, "duel", 3);
            Edge.refused(Edge.BAD, NO_TUBES, "duel", 4);
            Edge.refused(Edge.BAD, NO_TUBES, "duel", -1);
        });
    }

    private static void duelTaken() {
        Edge.test("31: no turns: what is left behind 8 TICKS, neither 7 nor 9", () -> {
            Scene scene = Scene.store("f30e41").then("tick").tried("word", 0, 3).then("word", 1, 12);
            Edge.tells(3, 0, scene, "left", 7);
            Edge.changesNothing(4, scene, "duel", 0);
            Edge.tells(5, 0, scene, "left", 9);
        });
        Edge.test("31: one turn gives, two give and take, three give last", () -> {
            Scene empty = Scene.store("t20t30");
            Edge.changesNothing(0, empty, "duel", 0);
            Edge.changesNothing(1, empty, "duel", 1);
            Edge.changesNothing(0, empty, "duel", 2);
            Edge.changesNothing(1, empty, "duel", 3);
        });
        Edge.test("31: the other one takes any, not that alone which was given", () -> {
            Scene two = Scene.store("t20t30").words(1, 1);
            Edge.changesNothing(2, two, "duel", 1);
            Edge.changesNothing(1, two, "duel", 2);
            Edge.changesNothing(2, two, "duel", 3);
        });
        Edge.test("31: SLOT 0 alone is given one, or loses it", () -> {
            Scene others = Scene.store("t20t20").words(2, 2);
            Edge.changesNothing(3, others, "duel", 1);
            Edge.changesNothing(2, others, "duel", 2);
            Edge.changesNothing(4, Scene.store("t20t20").words(3, 3), "duel", 1);
            Edge.changesNothing(3, Scene.store("t20t20").words(3, 3), "duel", 2);
        });
        Edge.test("31: or does nothing, if that is better", () -> {
            // in TICK 0 each FLIP one sends a PULSE in for nothing, nothing for one
            Scene flips = Scene.store("f99f99");
            Edge.changesNothing(2, flips, "duel", 0);
            Edge.changesNothing(2, flips, "duel", 1);
            Scene ones = Scene.store("f99f99").words(1, 1);
            Edge.changesNothing(0, ones, "duel", 0);
            Edge.changesNothing(0, ones, "duel", 1);
            Edge.changesNothing(0, ones, "duel", 2);
        });
        Edge.test("31: the last of seven TUBES is one to give to", () -> {
            // the WEAK ones lose what is in SLOT 0 in TICK 0
            Edge.changesNothing(1, Scene.store("w20w20w20w20w20w20t20"), "duel", 1);
            Edge.changesNothing(1, Scene.store("t20w20w20w20w20w20w20"), "duel", 1);
            Edge.changesNothing(0, Scene.store("w20".repeat(7)), "duel", 1);
        });
        Edge.test("31: the other one takes one alone of many", () -> {
            for (int tubes = 2; tubes <= 7; tubes++) {
                Scene all = Scene.store("t20".repeat(tubes)).words(again(tubes, 1));
                Edge.changesNothing(tubes, all, "duel", 1);
                Edge.changesNothing(tubes - 1, all, "duel", 2);
                Edge.changesNothing(tubes, all, "duel", 3);
            }
        });
        Edge.test("31: any of seven TUBES is one to take from", () -> {
            // all but one lose what is in SLOT 0 in TICK 0, so that one alone is worth giving to, and taking from
            for (int i = 0; i < 7; i++) {
                Scene one = Scene.store("w90".repeat(i) + "t90" + "w90".repeat(6 - i)).words(again(7, 1));
                Edge.changesNothing(1, one, "duel", 0);
                Edge.changesNothing(1, one, "duel", 1);
                Edge.changesNothing(0, one, "duel", 2);
                Edge.changesNothing(1, one, "duel", 3);
            }
        });
        Edge.test("31: beyond 40 DEEDS, too: it is aside", () -> Edge.changesNothing(3, FULL_OF_DEEDS, "duel", 3));
    }

    // ---- chances

    private static void oddsRefused() {
        Edge.test("32: BAD: k below 0, above 63", () -> {
            Edge.refused(Edge.BAD, RICH, "odds", -1, 0, 0);
            Edge.refused(Edge.BAD, RICH, "odds", 64, 0, 0);
            Edge.refused(Edge.BAD, RICH, "odds", Edge.LOWEST, 0, 0);
            Edge.refused(Edge.BAD, RICH, "odds", Edge.HIGHEST, 0, 0);
        });
        Edge.test("32: BAD: fewer TICKS than 0, more than 20", () -> {
            Edge.refused(Edge.BAD, RICH, "odds", 0, -1, 0);
            Edge.refused(Edge.BAD, RICH, "odds", 0, 21, 0);
            Edge.refused(Edge.BAD, RICH, "odds", 0, Edge.LOWEST, 0);
            Edge.refused(Edge.BAD, RICH, "odds", 0, Edge.HIGHEST, 0);
        });
        Edge.test("32: BAD: p below 0, above 12", () -> {
            Edge.refused(Edge.BAD, RICH, "odds", 0, 0, -1);
            Edge.refused(Edge.BAD, RICH, "odds", 0, 0, 13);
            Edge.refused(Edge.BAD, RICH, "odds", 0, 0, Edge.LOWEST);
            Edge.refused(Edge.BAD, RICH, "odds", 0, 0, Edge.HIGHEST);
        });
        Edge.test("32: STATE: no TUBES, behind BAD", () -> {
            Edge.refused(Edge.STATE, NO_TUBES, "odds", 0, 0, 0);
            Edge.refused(Edge.STATE, NO_TUBES, "odds", 63, 20, 12);
            Edge.refused(Edge.BAD, NO_TUBES, "odds", 64, 20, 12);
            Edge.refused(Edge.BAD, NO_TUBES, "odds", -1, 20, 12);
        });
    }

    private static void oddsTaken() {
        Scene two = Scene.store("t20t30").words(1, 3);
        Scene full = Scene.store("t90".repeat(7)).words(511, 511, 511, 511, 511, 511, 511);
        Edge.test("32: 0 or more are sure", () -> {
            Edge.chance(1, 1, two, "odds", 0, 0, 0);
            Edge.chance(1, 1, two, "odds", 0, 20, 7);
            Edge.chance(1, 1, two, "odds", 0, 20, 12);
        });
        Edge.test("32: k or more: as many as there are, one more", () -> {
            Edge.chance(1, 1, two, "odds", 3, 5, 0);
            Edge.chance(0, 1, two, "odds", 4, 5, 0);
            Edge.chance(1, 4, two, "odds", 3, 5, 6);
            Edge.chance(1, 2, two, "odds", 2, 5, 6);
            Edge.chance(3, 4, two, "odds", 1, 5, 6);
        });
        Edge.test("32: 63, the most", () -> {
            Edge.chance(1, 1, full, "odds", 63, 20, 0);
            Edge.chance(19487171, 35831808, full, "odds", 63, 20, 1);
            Edge.chance(0, 1, two, "odds", 63, 20, 0);
        });
        Edge.test("32: p 0: none fails; p 12: all fail", () -> {
            Edge.chance(1, 1, two, "odds", 1, 0, 0);
            Edge.chance(0, 1, two, "odds", 1, 0, 12);
        });
        Edge.test("32: p 1, p 11 of 12", () -> {
            Scene one = Scene.store("t20t30").words(1);
            Edge.chance(11, 12, one, "odds", 1, 0, 1);
            Edge.chance(1, 12, one, "odds", 1, 0, 11);
            Edge.chance(121, 144, two, "odds", 3, 0, 1);
            Edge.chance(1, 144, two, "odds", 3, 0, 11);
            Edge.chance(143, 144, two, "odds", 1, 0, 1);
        });
        Edge.test("32: behind 20 TICKS, neither 19 nor 21", () -> {
            // behind 19, 20, 21 TICKS there are 0, 1, 2
            Scene scene = Scene.store("f43f45").then("tick").tried("word", 0, 7).tried("word", 1, 6);
            Edge.chance(0, 1, scene, "odds", 1, 19, 0);
            Edge.chance(1, 1, scene, "odds", 1, 20, 0);
            Edge.chance(0, 1, scene, "odds", 2, 20, 0);
        });
        Edge.test("32: behind 0 TICKS, as now; 1", () -> {
            Scene weak = Scene.store("w20t20").words(1);
            Edge.chance(1, 1, weak, "odds", 1, 0, 0);
            Edge.chance(0, 1, weak, "odds", 1, 1, 0);
        });
        Edge.test("32: one that failed goes on: a FLIP one makes PULSES of nothing", () ->
            Edge.chance(1, 1, Scene.store("f20f20"), "odds", 2, 1, 12));
        Edge.test("32: it fails now, not in a later TICK: what comes to it later stays", () -> {
            Scene led = Scene.store("t20t20").then("swap", 0, 1).words(1);
            // TUBE 0's PULSE is in TUBE 1 behind one TICK; TUBE 0 alone can lose it
            Edge.chance(1, 2, led, "odds", 1, 1, 6);
        });
    }

    private static void mid() {
        Scene two = Scene.store("t20t30").words(1, 3);
        Edge.test("33: BAD: fewer TICKS than 0, more than 20", () -> {
            Edge.refused(Edge.BAD, RICH, "mid", -1, 0);
            Edge.refused(Edge.BAD, RICH, "mid", 21, 0);
            Edge.refused(Edge.BAD, RICH, "mid", Edge.LOWEST, 0);
            Edge.refused(Edge.BAD, RICH, "mid", Edge.HIGHEST, 0);
        });
        Edge.test("33: BAD: p below 0, above 12", () -> {
            Edge.refused(Edge.BAD, RICH, "mid", 0, -1);
            Edge.refused(Edge.BAD, RICH, "mid", 0, 13);
            Edge.refused(Edge.BAD, RICH, "mid", 0, Edge.LOWEST);
            Edge.refused(Edge.BAD, RICH, "mid", 0, Edge.HIGHEST);
        });
        Edge.test("33: STATE: no TUBES, behind BAD", () -> {
            Edge.refused(Edge.STATE, NO_TUBES, "mid", 0, 0);
            Edge.refused(Edge.STATE, NO_TUBES, "mid", 20, 12);
            Edge.refused(Edge.BAD, NO_TUBES, "mid", 21, 12);
            Edge.refused(Edge.BAD, NO_TUBES, "mid", 20, 13);
        });
        Edge.test("33: p 0: none fails; p 12: all fail, 0 by 1", () -> {
            Edge.chance(3, 1, two, "mid", 0, 0);
            Edge.chance(0, 1, two, "mid", 0, 12);
        });
        Edge.test("33: p 1, p 11 of 12", () -> {
            Edge.chance(11, 4, two, "mid", 0, 1);
            Edge.chance(1, 4, two, "mid", 0, 11);
        });
        Edge.test("33: of none 0 by 1, of 63 by twelfths", () -> {
            Edge.chance(0, 1, Scene.store("t20t30"), "mid", 20, 5);
            Scene full = Scene.store("t90".repeat(7)).words(511, 511, 511, 511, 511, 511, 511);
            Edge.chance(63, 1, full, "mid", 20, 0);
            Edge.chance(231, 4, full, "mid", 20, 1);
        });
        Edge.test("33: behind 20 TICKS, neither 19 nor 21; behind 0, 1", () -> {
            Scene scene = Scene.store("f43f45").then("tick").tried("word", 0, 7).tried("word", 1, 6);
            Edge.chance(0, 1, scene, "mid", 19, 0);
            Edge.chance(1, 1, scene, "mid", 20, 0);
            Edge.chance(2, 1, scene.then("tick"), "mid", 20, 0);
            Scene weak = Scene.store("w20t20").words(1, 1);
            Edge.chance(2, 1, weak, "mid", 0, 0);
            Edge.chance(1, 1, weak, "mid", 1, 0);
        });
    }

    // ---- lots

    private static void lotsRefused() {
        Edge.test("34: BAD: fewer DEEDS than 1, more than 20", () -> {
            Edge.refused(Edge.BAD, RICH, "lots", 0, 1);
            Edge.refused(Edge.BAD, RICH, "lots", 21, 1);
            Edge.refused(Edge.BAD, RICH, "lots", Edge.LOWEST, 1);
            Edge.refused(Edge.BAD, RICH, "lots", Edge.HIGHEST, 1);
        });
        Edge.test("34: BAD: a seed below 1, above 2147483646", () -> {
            Edge.refused(Edge.BAD, RICH, "lots", 1, 0);
            Edge.refused(Edge.BAD, RICH, "lots", 1, -1);
            Edge.refused(Edge.BAD, RICH, "lots", 1, Edge.LOWEST);
            Edge.refused(Edge.BAD, RICH, "lots", 1, 2147483647);
        });
        Edge.test("34: STATE: no TUBES, behind BAD", () -> {
            Edge.refused(Edge.STATE, NO_TUBES, "lots", 1, 1);
            Edge.refused(Edge.STATE, NO_TUBES, "lots", 20, 2147483646);
            Edge.refused(Edge.BAD, NO_TUBES, "lots", 21, 1);
            Edge.refused(Edge.BAD, NO_TUBES, "lots", 1, 0);
        });
    }

    private static void lotsFull() {
        Edge.test("34: FULL: with n more there would be more than 40 DEEDS; none of them is done", () -> {
            Edge.refused(Edge.FULL, FULL_OF_DEEDS, "lots", 1, 1);
            Edge.refused(Edge.FULL, FULL_OF_DEEDS, "lots", 20, 1);
            Edge.refused(Edge.FULL, FULL_OF_DEEDS.then("undo", 21), "lots", 20, 1);
            Edge.refused(Edge.FULL, FULL_OF_DEEDS.then("undo", 39), "lots", 2, 1);
        });
        Edge.test("34: as many as there is room for are done: 40 DEEDS then", () -> {
            int[] done = {39, 38, 21, 20};
            for (int n : done) {
                Scene room = FULL_OF_DEEDS.then("undo", n).then("lots", 40 - n, 1);
                Edge.answers(40, room, "count", 2);
                Edge.refused(Edge.FULL, room, "tick");
            }
        });
        Edge.test("34: FULL last, behind BAD", () -> {
            Edge.refused(Edge.BAD, FULL_OF_DEEDS, "lots", 21, 1);
            Edge.refused(Edge.BAD, FULL_OF_DEEDS, "lots", 0, 1);
            Edge.refused(Edge.BAD, FULL_OF_DEEDS, "lots", 1, 0);
        });
    }

    private static void sameAs(String name, Scene got, Scene due) {
        Edge.sameState(name, got.play(), due.play());
    }

    private static void lotsTaken() {
        Scene begun = Scene.store("t30w41s52").words(5, 9, 3);
        Edge.test("34: the least and the greatest seed", () -> {
            // 48271: TUBE 6033 modulo 3, of what is 7 modulo 8; 2147435376 is 0 modulo 8, by 8 it is 268429422, 0 modulo 3
            sameAs("lots(1, 1)", begun.then("lots", 1, 1), begun.then("tick"));
            sameAs("lots(1, 2147483646)", begun.then("lots", 1, 2147483646), begun.then("swap", 0, 1));
        });
        Edge.test("34: one DEED, 20 DEEDS: each is one", () -> {
            Edge.answers(4, begun.then("lots", 1, 1), "count", 2);
            Edge.answers(23, begun.then("lots", 20, 1), "count", 2);
        });
        Edge.test("34: each number comes from the one ahead, the first from the seed", () -> {
            Scene two = begun.then("lots", 2, 12345);
            int second = (int) (12345 * 48271L % Lots.MODULUS);
            sameAs("lots(2, 12345)", two, begun.then("lots", 1, 12345).then("lots", 1, second));
        });
        Edge.test("34: a number that is no int ahead of the modulus", () -> {
            // 2147483646 is -1: -48271, then 48271 times -48271
            int second = (int) (Lots.MODULUS - 48271);
            sameAs("lots(2, 2147483646)", begun.then("lots", 2, 2147483646), begun.then("swap", 0, 1).then("lots", 1, second));
        });
        Edge.test("34: how many PULSES there are in all is answered, asked() is left", () -> {
            // the WEAK one loses one in TICK 0
            Edge.answers(5, begun, "lots", 1, 1);
            Edge.answers(0, Scene.store("t20t20"), "lots", 1, 1);
            Scene set = Scene.store("t30t20").row(0, 77).then("at", 0, 0);
            Edge.answers(1, set, "lots", 1, Lots.seedFor(1));
            Edge.answers(77, set.then("lots", 1, Lots.seedFor(1)), "asked");
        });
        Edge.test("34: ROWS, TEXTS, kept STORES stay", () -> {
            Scene after = RICH.then("lots", 5, 1);
            Edge.answers(4, after, "count", 6);
            Edge.answers(2, after, "count", 8);
            sameAs("undone again", after.then("undo", 11), RICH);
        });
    }

    private static void lotsByOne() {
        Scene begun = Scene.store("t30w41s52").words(5, 9, 3).then("tick");
        Edge.test("34: modulo 8: 0 WAYS, 1 to 3 a SLOT, 4 to 7 a TICK", () -> {
            sameAs("0", begun.then("lots", 1, Lots.seedFor(8)), begun.then("swap", 1, 2));
            sameAs("1", begun.then("lots", 1, Lots.seedFor(9)), begun.then("set", 1, 0));
            sameAs("2", begun.then("lots", 1, Lots.seedFor(10)), begun.then("set", 1, 0));
            sameAs("3", begun.then("lots", 1, Lots.seedFor(11)), begun.then("set", 1, 0));
            sameAs("4", begun.then("lots", 1, Lots.seedFor(12)), begun.then("tick"));
            sameAs("5", begun.then("lots", 1, Lots.seedFor(13)), begun.then("tick"));
            sameAs("6", begun.then("lots", 1, Lots.seedFor(14)), begun.then("tick"));
            sameAs("7", begun.then("lots", 1, Lots.seedFor(15)), begun.then("tick"));
        });
        Edge.test("34: the least number, 1", () -> sameAs("1", begun.then("lots", 1, Lots.seedFor(1)), begun.then("set", 0, 0)));
        Edge.test("34: the TUBE by 8, cut, modulo how many there are", () -> {
            int[] tubes = {0, 1, 2, 0, 1, 2, 0};
            for (int t = 0; t < tubes.length; t++) {
                sameAs("TUBE " + t, begun.then("lots", 1, Lots.seedFor(8 * t + 1)), begun.then("set", tubes[t], 0));
            }
        });
        Edge.test("34: behind the last one the first, of 2, 3, 7 TUBES", () -> {
            sameAs("of 3", begun.then("lots", 1, Lots.seedFor(16)), begun.then("swap", 2, 0));
            Scene two = Scene.store("t30t20").words(1);
            sameAs("of 2", two.then("lots", 1, Lots.seedFor(8)), two.then("swap", 1, 0));
            Scene seven = Scene.store("t20".repeat(7)).words(1);
            sameAs("of 7", seven.then("lots", 1, Lots.seedFor(48)), seven.then("swap", 6, 0));
            sameAs("of 7, the one ahead", seven.then("lots", 1, Lots.seedFor(40)), seven.then("swap", 5, 6));
            sameAs("of 7, the first", seven.then("lots", 1, Lots.seedFor(56)), seven.then("swap", 0, 1));
        });
        Edge.test("34: the SLOT by 64, cut, modulo its LENGTH", () -> {
            Scene ends = Scene.store("t20t90");
            sameAs("0 of 9", ends.then("lots", 1, Lots.seedFor(8 + 1)), ends.then("set", 1, 0));
            sameAs("0 of 9, at 63", ends.then("lots", 1, Lots.seedFor(7 * 8 + 1)), ends.then("set", 1, 0));
            sameAs("1 of 9", ends.then("lots", 1, Lots.seedFor(64 + 8 + 1)), ends.then("set", 1, 1));
            sameAs("8 of 9", ends.then("lots", 1, Lots.seedFor(8 * 64 + 8 + 1)), ends.then("set", 1, 8));
            sameAs("9 of 9 is 0", ends.then("lots", 1, Lots.seedFor(9 * 64 + 8 + 1)), ends.then("set", 1, 0));
            sameAs("1 of 2", ends.then("lots", 1, Lots.seedFor(64 + 1)), ends.then("set", 0, 1));
            sameAs("2 of 2 is 0", ends.then("lots", 1, Lots.seedFor(2 * 64 + 1)), ends.then("set", 0, 0));
            sameAs("19 of 9 is 1", ends.then("lots", 1, Lots.seedFor(20 * 64 - 5)), ends.then("set", 1, 1));
            sameAs("100 of 9 is 1", ends.then("lots", 1, Lots.seedFor(100 * 64 + 8 + 1)), ends.then("set", 1, 1));
        });
        Edge.test("34: a SLOT that has a PULSE loses it", () -> {
            Scene one = Scene.store("t20t90").words(0, 256);
            Edge.answers(0, one, "lots", 1, Lots.seedFor(8 * 64 + 8 + 1));
        });
        Edge.test("34: the greatest number, 2147483646", () -> {
            // 6 modulo 8
            sameAs("2147483646", begun.then("lots", 1, Lots.seedFor(2147483646L)), begun.then("tick"));
        });
    }
}
