/** The edges of promises 21 to 27: what comes, what to do. */
public final class EdgesOfWhatComes {
    private static final Scene RICH = Scenes.RICH;
    private static final Scene NO_TUBES = Scenes.NO_TUBES;
    /** From TICK 3 on: behind 59, 60, 61 TICKS TUBE 0 has the WORDS 3, 1, 2, and there are 3, 2, 1 PULSES. */
    private static final Scene AT_SIXTY = Scene.store("f20f45").times(3, "tick").tried("word", 0, 1).tried("word", 1, 1);

    public static void main(String[] args) {
        later();
        hearsRefused();
        hearsTaken();
        findsRefused();
        findsTaken();
        findsByThen();
        round();
        left();
        best();
        safest();
        Edge.end();
    }

    private static void tubesAreBad(String promise, String call, int... behindTube) {
        int[] none = {-1, 7, Edge.LOWEST, Edge.HIGHEST};
        Edge.test(promise + ": BAD: a TUBE one below, one above", () -> {
            for (int i : none) {
                Edge.refused(Edge.BAD, RICH, call, with(i, behindTube));
            }
            Edge.refused(Edge.BAD, Scene.store("t20t20"), call, with(2, behindTube));
        });
        Edge.test(promise + ": BAD: no TUBES", () -> Edge.refused(Edge.BAD, NO_TUBES, call, with(0, behindTube)));
    }

    private static int[] with(int first, int... others) {
        int[] all = new int[others.length + 1];
        all[0] = first;
        System.arraycopy(others, 0, all, 1, others.length);
        return all;
    }

    private static void later() {
        tubesAreBad("21", "later", 0);
        Edge.test("21: BAD: fewer TICKS than 0, more than 60", () -> {
            Edge.refused(Edge.BAD, RICH, "later", 0, -1);
            Edge.refused(Edge.BAD, RICH, "later", 0, 61);
            Edge.refused(Edge.BAD, RICH, "later", 0, Edge.LOWEST);
            Edge.refused(Edge.BAD, RICH, "later", 0, Edge.HIGHEST);
        });
        Edge.test("21: behind 0 TICKS it is as now", () -> {
            Scene now = Scene.store("t30w30").words(3, 7);
            Edge.tells(3, 5, now, "later", 0, 0);
            Edge.tells(7, 5, now, "later", 1, 0);
        });
        Edge.test("21: behind 1 TICK", () -> {
            Scene now = Scene.store("t30w30").words(3, 7);
            Edge.tells(5, 4, now, "later", 0, 1);
            Edge.tells(3, 4, now, "later", 1, 1);
        });
        Edge.test("21: behind 60 TICKS, neither 59 nor 61", () -> {
            Edge.tells(3, 3, AT_SIXTY, "later", 0, 59);
            Edge.tells(1, 2, AT_SIXTY, "later", 0, 60);
            Edge.tells(2, 1, AT_SIXTY.then("tick"), "later", 0, 60);
        });
        Edge.test("21: the first and the last TUBE; all PULSES are told, not its own", () -> {
            Scene seven = Scene.store("t20".repeat(7)).words(1, 0, 0, 0, 0, 0, 3);
            Edge.tells(2, 3, seven, "later", 0, 1);
            Edge.tells(3, 3, seven, "later", 6, 1);
        });
        Edge.test("21: beyond TICK 99, too", () -> {
            // it turns one over in TICKS that 11 divides: in TICK 99 nothing comes out, a PULSE is SENT in
            Scene late = Scene.store("f29t20").times(40, "tick");
            Edge.tells(2, 1, late, "later", 0, 59);
            Edge.tells(3, 2, late, "later", 0, 60);
        });
    }

    private static void hearsRefused() {
        tubesAreBad("22", "hears", 1, 0);
        Edge.test("22: BAD: fewer TICKS than 1, more than 20", () -> {
            Edge.refused(Edge.BAD, RICH, "hears", 0, 0, 0);
            Edge.refused(Edge.BAD, RICH, "hears", 0, 21, 0);
            Edge.refused(Edge.BAD, RICH, "hears", 0, Edge.LOWEST, 0);
            Edge.refused(Edge.BAD, RICH, "hears", 0, Edge.HIGHEST, 0);
        });
        Edge.test("22: BAD: a ROW one below, one above", () -> {
            Edge.refused(Edge.BAD, RICH, "hears", 0, 1, -1);
            Edge.refused(Edge.BAD, RICH, "hears", 0, 1, 6);
        });
    }

    /** The ROW is all that changes. */
    private static void hears(long pulses, Scene scene, int i, int r, int... heard) {
        Played x = scene.play();
        Played y = scene.row(r, heard).play();
        String name = Played.named("hears", i, heard.length, r);
        Edge.due(name, x.ask("hears", i, heard.length, r), pulses);
        Edge.due(name + ": asked() is left", x.ask("asked"), scene.play().ask("asked"));
        Edge.sameState(name, x, y);
    }

    private static void hearsTaken() {
        Scene two = Scene.store("t30s30").words(3, 3);
        Edge.test("22: one TICK", () -> {
            hears(1, two, 0, 0, 1);
            hears(0, two.then("undo", 0), 0, 0, 0);
        });
        Edge.test("22: 20 TICKS", () ->
            hears(14, two, 0, 5, 1, 1, 0, 1, 1, 0, 1, 1, 0, 1, 1, 0, 1, 1, 0, 1, 1, 0, 1, 1));
        Edge.test("22: -1 where it does not MOVE, no PULSE", () -> {
            hears(2, two, 1, 0, 1, -1, 1, -1, 0, -1);
            hears(1, two.then("tick"), 1, 0, -1, 1, -1, 0);
            hears(0, two.then("tick"), 1, 0, -1);
        });
        Edge.test("22: the ROW is anew: missing, lesser, greater, none ahead", () -> {
            hears(2, two, 0, 4, 1, 1);
            hears(2, two.row(4, 9), 0, 4, 1, 1);
            hears(2, two.row(4, 9, 9, 9, 9), 0, 4, 1, 1);
            hears(2, two.row(4), 0, 4, 1, 1);
        });
        Edge.test("22: the first and the last ROW, the first and the last TUBE", () -> {
            Scene seven = Scene.store("t20".repeat(7)).words(1, 0, 0, 0, 0, 0, 2);
            hears(1, seven, 0, 0, 1, 0);
            hears(1, seven, 6, 5, 0, 1);
        });
    }

    private static void findsRefused() {
        tubesAreBad("23", "finds", 0, 1);
        Edge.test("23: BAD: a PATTERN of fewer bits than 1, of more than 8", () -> {
            Edge.refused(Edge.BAD, RICH, "finds", 0, 0, 0);
            Edge.refused(Edge.BAD, RICH, "finds", 0, 0, 9);
            Edge.refused(Edge.BAD, RICH, "finds", 0, 0, -1);
            Edge.refused(Edge.BAD, RICH, "finds", 0, 0, 32);
            Edge.refused(Edge.BAD, RICH, "finds", 0, 0, 33);
            Edge.refused(Edge.BAD, RICH, "finds", 0, 0, Edge.LOWEST);
            Edge.refused(Edge.BAD, RICH, "finds", 0, 0, Edge.HIGHEST);
        });
        Edge.test("23: BAD: v below 0, more than n bits can have", () -> {
            for (int n = 1; n <= 8; n++) {
                Edge.refused(Edge.BAD, RICH, "finds", 0, -1, n);
                Edge.refused(Edge.BAD, RICH, "finds", 0, 1 << n, n);
            }
            Edge.refused(Edge.BAD, RICH, "finds", 0, Edge.LOWEST, 8);
            Edge.refused(Edge.BAD, RICH, "finds", 0, Edge.HIGHEST, 8);
        });
    }

    private static void findsTaken() {
        Edge.test("23: v of n bits, none of them and all", () -> {
            Scene none = Scene.store("t90t20");
            Scene all = Scene.store("t90t20").words(511);
            for (int n = 1; n <= 8; n++) {
                Edge.tells(n, 0, none, "finds", 0, 0, n);
                Edge.tells(n, n, all, "finds", 0, (1 << n) - 1, n);
            }
        });
        Edge.test("23: bit 0 first", () -> {
            Scene scene = Scene.store("t90t20").words(0b000001000);
            Edge.tells(4, 1, scene, "finds", 0, 0b10, 2);
            Edge.tells(5, 1, scene, "finds", 0, 0b01, 2);
            Edge.tells(4, 1, scene, "finds", 0, 0b1000, 4);
            Edge.tells(7, 1, scene, "finds", 0, 0b0001, 4);
        });
        Edge.test("23: whole first: not by what came out ahead of now", () -> {
            // 0 0 1 come out, then again
            Scene scene = Scene.store("t30t20").words(4);
            Edge.tells(4, 1, scene, "finds", 0, 0b01, 2);
            Edge.tells(2, 0, scene, "finds", 0, 0, 2);
        });
        Edge.test("23: a PATTERN that begins anew within itself", () -> {
            // 1 1 0 1 1 1 .. : 1 1 1 is whole in TICK 6
            Scene scene = Scene.store("t60t20").words(0b111011);
            Edge.tells(6, 5, scene, "finds", 0, 0b111, 3);
            Edge.tells(5, 4, scene, "finds", 0, 0b11011, 5);
        });
        Edge.test("23: PULSES that had come out till then, the last one, too", () -> {
            Scene scene = Scene.store("t90t20").words(0b111010101);
            Edge.tells(8, 5, scene, "finds", 0, 0b11, 2);
            Edge.tells(1, 1, scene, "finds", 0, 1, 1);
            Edge.tells(2, 1, scene, "finds", 0, 0, 1);
        });
        Edge.test("23: TICKS in which it does not MOVE do not count for the PATTERN, but for the TICK", () -> {
            Scene slow = Scene.store("s30t20").words(3);
            Edge.tells(1, 1, slow, "finds", 0, 1, 1);
            Edge.tells(3, 2, slow, "finds", 0, 3, 2);
            Edge.tells(5, 2, slow, "finds", 0, 0, 1);
            Edge.tells(2, 1, slow.then("tick"), "finds", 0, 1, 1);
            Edge.tells(4, 1, slow.then("tick"), "finds", 0, 1, 2);
        });
    }

    private static void findsByThen() {
        // what is in SLOT s of TUBE 1 comes out of TUBE 0 in TICK s + 55
        Scene ring = Scenes.ring("t90".repeat(7), 7);
        Edge.test("23: TICK 60 is the last, TICK 61 is NONE, for one bit", () -> {
            Edge.tells(60, 1, ring.then("set", 1, 5), "finds", 0, 1, 1);
            Edge.changesNothing(Edge.NONE, ring.then("set", 1, 6), "finds", 0, 1, 1);
        });
        Edge.test("23: TICK 60 is the last, TICK 61 is NONE, for eight bits", () -> {
            Edge.tells(60, 1, ring.then("set", 1, 5), "finds", 0, 128, 8);
            Edge.changesNothing(Edge.NONE, ring.then("set", 1, 6), "finds", 0, 128, 8);
            Edge.tells(60, 1, ring.then("set", 2, 7), "finds", 0, 1, 8);
            Edge.changesNothing(Edge.NONE, ring.then("set", 2, 8), "finds", 0, 1, 8);
        });
        Edge.test("23: NONE: asked() is left", () -> {
            Scene told = Scene.store("t30t20").row(0, 77).then("at", 0, 0);
            Edge.changesNothing(Edge.NONE, told, "finds", 0, 1, 1);
            Edge.answers(77, told.tried("finds", 0, 1, 1), "asked");
        });
        Edge.test("23: TICK 1 is the first", () -> {
            Edge.tells(1, 0, ring, "finds", 6, 0, 1);
            Edge.tells(1, 1, ring.then("set", 6, 0), "finds", 6, 1, 1);
        });
    }

    private static void round() {
        Edge.test("24: STATE: no TUBES", () -> Edge.refused(Edge.STATE, NO_TUBES, "round"));
        Edge.test("24: behind 1 TICK, the least", () -> {
            Edge.tells(1, 0, Scene.store("t20t20"), "round");
            Edge.tells(1, 5, Scene.store("t20t30").words(3, 7), "round");
        });
        Edge.test("24: behind 120 TICKS, the most", () -> {
            Edge.tells(120, 3, Scene.store("t80t50t30").words(1, 1, 1), "round");
            Edge.tells(120, 6, Scene.store("t57f95").words(30, 438), "round");
        });
        Edge.test("24: NONE: behind 121 TICKS, behind 126, never; asked() is left", () -> {
            Scene late = Scene.store("f85t55").then("swap", 0, 1).words(240, 7).row(0, 77).then("at", 0, 0);
            Edge.changesNothing(Edge.NONE, late, "round");
            Edge.answers(77, late.tried("round"), "asked");
            Edge.changesNothing(Edge.NONE, Scene.store("t90t70t20").words(1, 1, 1), "round");
            Edge.changesNothing(Edge.NONE, Scene.store("w20t20").words(3), "round");
        });
        Edge.test("24: beyond TICK 99, too", () ->
            Edge.tells(120, 3, Scene.store("t80t50t30").words(1, 1, 1).times(37, "tick"), "round"));
        Edge.test("24: the fewest are now, and then", () -> {
            // 0 4 2 5 6 7 7 3 5 2 1 0
            Edge.tells(11, 0, Scene.store("f30t20"), "round");
        });
        Edge.test("24: the fewest are between", () -> {
            // 3 1 2 3
            Edge.tells(3, 1, Scene.store("f20t20").words(3), "round");
        });
        Edge.test("24: all WORDS, the last TUBE's, too; WAYS, the TICK need not be alike", () -> {
            Edge.tells(6, 2, Scene.store("t20t30").words(1, 1), "round");
            Edge.tells(3, 1, Scene.store("t20t30").words(0, 1), "round");
            Edge.tells(2, 1, Scene.store("t20t30").words(1, 0), "round");
            Edge.tells(1, 0, Scene.store("s20t30").then("tick"), "round");
        });
        Edge.test("24: a SLOW one that does not MOVE is as it was, at once", () ->
            Edge.tells(1, 1, Scene.store("s20t20").words(1).then("tick"), "round"));
    }

    private static void left() {
        Edge.test("25: BAD: fewer TICKS than 0, more than 60", () -> {
            Edge.refused(Edge.BAD, RICH, "left", -1);
            Edge.refused(Edge.BAD, RICH, "left", 61);
            Edge.refused(Edge.BAD, RICH, "left", Edge.LOWEST);
            Edge.refused(Edge.BAD, RICH, "left", Edge.HIGHEST);
        });
        Edge.test("25: STATE: no TUBES, behind BAD", () -> {
            Edge.refused(Edge.STATE, NO_TUBES, "left", 0);
            Edge.refused(Edge.STATE, NO_TUBES, "left", 60);
            Edge.refused(Edge.BAD, NO_TUBES, "left", 61);
            Edge.refused(Edge.BAD, NO_TUBES, "left", -1);
        });
        Edge.test("25: behind 0 TICKS it is as now", () -> Edge.tells(3, 0, Scene.store("w20t20").words(1, 3), "left", 0));
        Edge.test("25: behind 1 TICK", () -> Edge.tells(2, 1, Scene.store("w20t20").words(1, 3), "left", 1));
        Edge.test("25: behind 60 TICKS, neither 59 nor 61", () -> {
            Edge.tells(3, 0, AT_SIXTY, "left", 59);
            Edge.tells(2, 0, AT_SIXTY, "left", 60);
            Edge.tells(1, 1, AT_SIXTY.then("tick"), "left", 60);
        });
        Edge.test("25: beyond TICK 99, too", () -> {
            Scene late = Scene.store("f29t20").times(40, "tick");
            Edge.tells(1, 1, late, "left", 59);
            Edge.tells(2, 1, late, "left", 60);
        });
        Edge.test("25: how many TUBES have none: none of them, all", () -> {
            Scene seven = Scene.store("t20".repeat(7));
            Edge.tells(0, 7, seven, "left", 9);
            Edge.tells(7, 0, seven.words(1, 2, 1, 2, 1, 2, 1), "left", 9);
            Edge.tells(1, 6, seven.words(0, 0, 0, 0, 0, 0, 1), "left", 9);
        });
        Edge.test("25: all SLOTS have one: 63", () -> {
            Scene all = Scene.store("t90".repeat(7)).words(511, 511, 511, 511, 511, 511, 511);
            Edge.tells(63, 0, all, "left", 60);
        });
    }

    private static void best() {
        Edge.test("26: BAD: fewer TICKS than 1, more than 40", () -> {
            Edge.refused(Edge.BAD, RICH, "best", 0);
            Edge.refused(Edge.BAD, RICH, "best", 41);
            Edge.refused(Edge.BAD, RICH, "best", Edge.LOWEST);
            Edge.refused(Edge.BAD, RICH, "best", Edge.HIGHEST);
        });
        Edge.test("26: STATE: no TUBES, behind BAD", () -> {
            Edge.refused(Edge.STATE, NO_TUBES, "best", 1);
            Edge.refused(Edge.STATE, NO_TUBES, "best", 40);
            Edge.refused(Edge.BAD, NO_TUBES, "best", 0);
            Edge.refused(Edge.BAD, NO_TUBES, "best", 41);
        });
        Edge.test("26: behind 1 TICK", () -> Edge.tells(1, 1, Scene.store("t20w20").words(0, 1), "best", 1));
        Edge.test("26: behind 40 TICKS, neither 39 nor 41", () -> {
            Scene scene = Scene.store("w45f50f71").words(7, 15, 110);
            Edge.changesNothing(Edge.NONE, scene, "best", 39);
            Edge.tells(2, 10, scene, "best", 40);
        });
        Edge.test("26: the least number, if many are alike", () -> {
            // the WEAK one loses its PULSE, unless it goes to another one
            Edge.tells(2, 1, Scene.store("t20t20w20").words(0, 0, 1), "best", 1);
            Edge.tells(1, 1, Scene.store("t20w20t20").words(0, 1), "best", 1);
            Edge.tells(1, 1, Scene.store("w20t20t20").words(1), "best", 1);
        });
        Edge.test("26: more counts ahead of a lesser number", () -> {
            // 0 has a PULSE that would be lost for the WEAK one's, 1 has none to lose
            Edge.tells(12, 2, Scene.store("t20t20w20").words(1, 0, 1), "best", 1);
        });
        Edge.test("26: the greatest number, of the two last ones of seven", () -> {
            Scene seven = Scene.store("t20t20t20t20t20t20w20").words(1, 1, 1, 1, 1, 0, 1);
            Edge.tells(56, 6, seven, "best", 1);
        });
        Edge.test("26: NONE: as many as it is are not more; asked() is left", () -> {
            Scene alike = Scene.store("t20t20").words(1, 0).row(0, 77).then("at", 0, 0);
            Edge.changesNothing(Edge.NONE, alike, "best", 1);
            Edge.changesNothing(Edge.NONE, alike, "best", 40);
            Edge.answers(77, alike.tried("best", 1), "asked");
            Edge.changesNothing(Edge.NONE, Scene.store("t20t20"), "best", 1);
        });
        Edge.test("26: SWAPPED as the WAYS are now, not as at first", () -> {
            // the WEAK one leads to itself again, if they are SWAPPED back
            Edge.changesNothing(Edge.NONE, Scene.store("t20w20").then("swap", 0, 1).words(0, 1), "best", 1);
            Edge.tells(1, 1, Scene.store("t20w20").then("swap", 0, 1).words(1), "best", 1);
        });
    }

    private static void safest() {
        Edge.test("27: BAD: a WORD below 0, above 511", () -> {
            Edge.refused(Edge.BAD, RICH, "safest", -1);
            Edge.refused(Edge.BAD, RICH, "safest", 512);
            Edge.refused(Edge.BAD, RICH, "safest", Edge.LOWEST);
            Edge.refused(Edge.BAD, RICH, "safest", Edge.HIGHEST);
        });
        Edge.test("27: STATE: no TUBES, behind BAD", () -> {
            Edge.refused(Edge.STATE, NO_TUBES, "safest", 0);
            Edge.refused(Edge.STATE, NO_TUBES, "safest", 511);
            Edge.refused(Edge.BAD, NO_TUBES, "safest", -1);
            Edge.refused(Edge.BAD, NO_TUBES, "safest", 512);
        });
        Edge.test("27: the WORDS 0 and 511", () -> {
            Edge.tells(0, 1, Scene.store("t20t90"), "safest", 0);
            Edge.tells(1, 1, Scene.store("t20t90"), "safest", 511);
        });
        Edge.test("27: such as its SLOTS can have alone", () -> {
            for (int length = 3; length <= 9; length++) {
                Scene scene = Scene.store("t20t" + length + "0");
                int most = (1 << length) - 1;
                Edge.tells(1, 1, scene, "safest", most);
                if (length < 9) {
                    Edge.changesNothing(Edge.NONE, scene, "safest", most + 1);
                }
            }
        });
        Edge.test("27: the first, if more are as soon", () -> {
            Edge.tells(0, 3, Scene.store("t30t30t30"), "safest", 1);
            Edge.tells(1, 3, Scene.store("t40t30t30"), "safest", 1);
        });
        Edge.test("27: the soonest ahead of the first", () -> Edge.tells(1, 2, Scene.store("t30t20"), "safest", 1));
        Edge.test("27: behind 60 TICKS, the most", () ->
            Edge.tells(0, 60, Scenes.ring("t90".repeat(6) + "t60", 7), "safest", 1));
        Edge.test("27: NONE: behind 61 TICKS, or never; asked() is left", () -> {
            Scene late = Scenes.ring("t90".repeat(6) + "t70", 7).row(0, 77).then("at", 0, 0);
            Edge.changesNothing(Edge.NONE, late, "safest", 1);
            Edge.answers(77, late.tried("safest", 1), "asked");
            Edge.changesNothing(Edge.NONE, Scene.store("w20w20"), "safest", 3);
        });
        Edge.test("27: a TUBE that has that WORD now is one, too", () ->
            Edge.tells(0, 3, Scene.store("t30t40").words(1), "safest", 1));
        Edge.test("27: one that does not MOVE has it again behind 1 TICK", () ->
            Edge.tells(1, 1, Scene.store("t30s30").then("tick"), "safest", 1));
        Edge.test("27: such as its SLOTS can have, though one that does not MOVE would leave any", () -> {
            Edge.changesNothing(Edge.NONE, Scene.store("s20s30").then("tick"), "safest", 8);
            Edge.tells(1, 1, Scene.store("s20s30").then("tick"), "safest", 7);
            Edge.tells(2, 4, Scene.store("s20s30t40").then("tick"), "safest", 8);
        });
    }
}
