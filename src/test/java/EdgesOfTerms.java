/** The edges that the section "Terms" names, each by itself. */
public final class EdgesOfTerms {
    private static final Scene RICH = Scenes.RICH;
    private static final Scene NO_TUBES = Scenes.NO_TUBES;
    private static final Scene FULL_OF_DEEDS = Scenes.FULL_OF_DEEDS;

    public static void main(String[] args) {
        orderOfRefusals();
        numbersOfFindings();
        fractionsAndSets();
        limitsOfRowsAndTexts();
        blanksOfStores();
        signsOfStores();
        endsOfStores();
        slotsAndWords();
        sentInByKind();
        atFirst();
        readyAndLost();
        limitOfDeeds();
        limitOfCalls();
        Edge.end();
    }

    // ---- what is refused

    private static void orderOfRefusals() {
        Edge.test("BAD -1, FULL -2, STATE -4, SPENT -6, FINDING -3, NONE -9", () -> {
            Edge.due("BAD", TubeWords.BAD, -1);
            Edge.due("FULL", TubeWords.FULL, -2);
            Edge.due("STATE", TubeWords.STATE, -4);
            Edge.due("SPENT", TubeWords.SPENT, -6);
            Edge.due("FINDING", TubeWords.FINDING, -3);
            Edge.due("NONE", TubeWords.NONE, -9);
        });
        Edge.test("BAD ahead of FULL: a number that is none, with 40 DEEDS", () -> {
            Edge.refused(Edge.BAD, FULL_OF_DEEDS, "set", 2, 0);
            Edge.refused(Edge.BAD, FULL_OF_DEEDS, "set", 0, 3);
            Edge.refused(Edge.BAD, FULL_OF_DEEDS, "swap", 0, 0);
            Edge.refused(Edge.BAD, FULL_OF_DEEDS, "swap", 0, 2);
            Edge.refused(Edge.BAD, FULL_OF_DEEDS, "word", 0, 8);
            Edge.refused(Edge.BAD, FULL_OF_DEEDS, "word", 2, 0);
            Edge.refused(Edge.BAD, FULL_OF_DEEDS, "lots", 0, 1);
            Edge.refused(Edge.BAD, FULL_OF_DEEDS, "lots", 21, 1);
            Edge.refused(Edge.BAD, FULL_OF_DEEDS, "lots", 1, 0);
        });
        Edge.test("BAD ahead of STATE: a number that is none, without TUBES", () -> {
            Edge.refused(Edge.BAD, NO_TUBES, "keep", 3);
            Edge.refused(Edge.BAD, NO_TUBES, "left", 61);
            Edge.refused(Edge.BAD, NO_TUBES, "best", 0);
            Edge.refused(Edge.BAD, NO_TUBES, "safest", 512);
            Edge.refused(Edge.BAD, NO_TUBES, "duel", 4);
            Edge.refused(Edge.BAD, NO_TUBES, "odds", 64, 0, 0);
            Edge.refused(Edge.BAD, NO_TUBES, "odds", 0, 21, 0);
            Edge.refused(Edge.BAD, NO_TUBES, "odds", 0, 0, 13);
            Edge.refused(Edge.BAD, NO_TUBES, "mid", 21, 0);
            Edge.refused(Edge.BAD, NO_TUBES, "mid", 0, 13);
            Edge.refused(Edge.BAD, NO_TUBES, "lots", 0, 1);
            Edge.refused(Edge.BAD, NO_TUBES, "lots", 1, 0);
        });
        Edge.test("BAD ahead of FINDING: a number that is none, of what is missing, too", () -> {
            Edge.refused(Edge.BAD, NO_TUBES, "row", 6, -1);
            Edge.refused(Edge.BAD, NO_TUBES, "lay", 6, -1, 0);
            Edge.refused(Edge.BAD, NO_TUBES, "at", 6, -1);
            Edge.refused(Edge.BAD, NO_TUBES, "tear", 6);
            Edge.refused(Edge.BAD, NO_TUBES, "copy", 6, -1, 0, -1, -1);
            Edge.refused(Edge.BAD, NO_TUBES, "copy", 0, -1, 6, -1, -1);
            Edge.refused(Edge.BAD, NO_TUBES, "mean", 6);
            Edge.refused(Edge.BAD, NO_TUBES, "text", 4, -1);
            Edge.refused(Edge.BAD, NO_TUBES, "put", 4, -1, 0);
            Edge.refused(Edge.BAD, NO_TUBES, "fault", 4);
            Edge.refused(Edge.BAD, NO_TUBES, "store", 4);
            Edge.refused(Edge.BAD, NO_TUBES, "on", 3);
            Edge.refused(Edge.BAD, NO_TUBES, "kinds", 0, 0);
            Edge.refused(Edge.BAD, NO_TUBES, "words", 0, 0);
            Edge.refused(Edge.BAD, NO_TUBES, "test", 0, 0);
            Edge.refused(Edge.BAD, RICH, "mark", 7, 1);
            Edge.refused(Edge.BAD, RICH, "mark", 0, 6);
        });
        Edge.test("STATE ahead of FULL, where FULL is last", () ->
            Edge.refused(Edge.STATE, FULL_OF_DEEDS, "word", 1, 0));
        Edge.test("NOTHING ahead of STATE, where STATE is behind it", () -> {
            Edge.found(Edge.NOTHING, RICH, "store", 3);
            Edge.refused(Edge.STATE, RICH, "store", 1);
        });
    }

    private static void numbersOfFindings() {
        Edge.test("FINDING 1 NOTHING: a ROW that is missing", () -> Edge.found(1, RICH, "at", 4, 0));
        Edge.test("FINDING 1 NOTHING: a TEXT that is missing", () -> Edge.found(1, RICH, "fault", 3));
        Edge.test("FINDING 1 NOTHING: a kept STORE that is missing", () -> Edge.found(1, RICH, "on", 1));
        Edge.test("FINDING 2 BEYOND: a place that there is not", () -> Edge.found(2, RICH, "at", 0, 3));
        Edge.test("FINDING 3 UNLIKE: a TUBE of another KIND", () -> Edge.found(3, RICH, "mark", 6, 1));
        Edge.test("FINDING 3 UNLIKE: a number that is none", () -> Edge.found(3, RICH, "kinds", 0, 0));
        Edge.test("FINDING 4 NOUGHT: shared among none", () -> Edge.found(4, RICH, "mean", 1));
        Edge.test("FINDING 5 SIZE: fewer than none", () -> Edge.found(5, RICH, "row", 0, -1));
        Edge.test("FINDING 5 SIZE: not as many as due", () -> {
            Edge.found(5, RICH, "kinds", 0, 1);
            Edge.found(5, RICH, "kinds", 0, 3);
        });
    }

    private static void fractionsAndSets() {
        Scene two = Scene.store("t30t40").words(3, 1);
        Edge.test("chances are told in lowest terms", () -> {
            Edge.chance(1, 4, two, "odds", 3, 0, 6);
            Edge.chance(3, 2, two, "mid", 0, 6);
            Edge.chance(49, 144, two, "odds", 3, 0, 5);
        });
        Edge.test("what is sure is 1 by 1", () -> Edge.chance(1, 1, two, "odds", 3, 0, 0));
        Edge.test("0 is told as 0 by 1", () -> {
            Edge.chance(0, 1, two, "odds", 4, 0, 6);
            Edge.chance(0, 1, two, "mid", 0, 12);
        });
        Edge.test("a set of TUBES is told by bits, bit 0 the first", () -> {
            Edge.answers(2, two.then("undo", 1), "count", 5);
            Edge.answers(1, two.then("undo", 0).words(0, 1), "count", 5);
        });
        Edge.test("a set of KINDS is told by bits, bit 0 KIND 0", () -> {
            // in TICK 0 a FLIP one alone sends in what it hears in TICK 2
            Scene heard = Scene.store("t20t20").row(0, 0, 0, 1);
            Edge.answers(1 << 4, heard, "kinds", 0, 0);
            Edge.answers(63 - (1 << 4), Scene.store("t20t20").row(0, 0, 0, 0), "kinds", 0, 0);
        });
    }

    // ---- rows, texts

    private static void limitsOfRowsAndTexts() {
        Edge.test("ROWS 0 .. 5 are there, one below and above is none", () -> {
            for (int r = 0; r <= 5; r++) {
                Edge.answers(1, Scene.NEW, "row", r, 1);
            }
            Edge.refused(Edge.BAD, NO_TUBES, "row", -1, 1);
            Edge.refused(Edge.BAD, NO_TUBES, "row", 6, 1);
        });
        Edge.test("a ROW has 0 to 40 ints", () -> {
            for (int n = 0; n <= 40; n++) {
                Edge.answers(n, Scene.NEW, "row", 0, n);
            }
            Edge.found(Edge.SIZE, NO_TUBES, "row", 0, -1);
            Edge.refused(Edge.BAD, NO_TUBES, "row", 0, 41);
        });
        Edge.test("TEXTS 0 .. 3 are there, one below and above is none", () -> {
            for (int t = 0; t <= 3; t++) {
                Edge.answers(1, Scene.NEW, "text", t, 1);
            }
            Edge.refused(Edge.BAD, NO_TUBES, "text", -1, 1);
            Edge.refused(Edge.BAD, NO_TUBES, "text", 4, 1);
        });
        Edge.test("a TEXT has 0 to 60 bytes", () -> {
            for (int n = 0; n <= 60; n++) {
                Edge.answers(n, Scene.NEW, "text", 0, n);
            }
            Edge.found(Edge.SIZE, NO_TUBES, "text", 0, -1);
            Edge.refused(Edge.BAD, NO_TUBES, "text", 0, 61);
        });
        Edge.test("ROWS are missing at first", () -> {
            for (int r = 0; r <= 5; r++) {
                Edge.found(Edge.NOTHING, Scene.NEW, "tear", r);
            }
        });
        Edge.test("TEXTS are missing at first", () -> {
            for (int t = 0; t <= 3; t++) {
                Edge.found(Edge.NOTHING, Scene.NEW, "fault", t);
            }
        });
        Edge.test("a ROW of none is not missing", () -> {
            Edge.answers(1, Scene.NEW.then("row", 0, 0), "tear", 0);
            Edge.answers(1, Scene.NEW.then("row", 0, 0), "count", 6);
        });
        Edge.test("a TEXT of none is not missing", () -> {
            Edge.answers(0, Scene.NEW.then("text", 0, 0), "fault", 0);
            Edge.answers(1, Scene.NEW.then("text", 0, 0), "count", 7);
        });
    }

    // ---- the language of STORES

    private static void good(String text, int tubes) {
        Edge.changesNothing(Edge.NONE, RICH.text(3, text), "fault", 3);
        Edge.answers(tubes, RICH.text(3, text), "store", 3);
    }

    private static void faultAt(int place, String text) {
        Edge.changesNothing(place, RICH.text(3, text), "fault", 3);
        Edge.refused(Edge.STATE, RICH.text(3, text), "store", 3);
    }

    private static String blanks(int n) {
        return " ".repeat(n);
    }

    private static void blanksOfStores() {
        Edge.test("blanks ahead, none or as many as fit", () -> {
            good("t20t20", 2);
            good(" t20t20", 2);
            good(blanks(54) + "t20t20", 2);
        });
        Edge.test("blanks between, none or as many as fit", () -> {
            good("t20 t20", 2);
            good("t20" + blanks(54) + "t20", 2);
            good("t20w31" + blanks(2) + "e42" + blanks(37) + "s53f64d75t86", 7);
        });
        Edge.test("blanks behind, none or as many as fit", () -> {
            good("t20t20 ", 2);
            good("t20t20" + blanks(54), 2);
            good("t20w31e42s53f64d75t86" + blanks(39), 7);
        });
        Edge.test("no blank between a letter and its LENGTH", () -> {
            faultAt(1, "t 20t20");
            faultAt(4, "t20t 20");
        });
        Edge.test("no blank between a LENGTH and its MARK", () -> {
            faultAt(2, "t2 0t20");
            faultAt(5, "t20t2 0");
        });
        Edge.test("a blank is 32 alone", () -> {
            int[] none = {0, 9, 10, 13, 31, 33, 95, 127, 160, 255};
            for (int sign : none) {
                Scene scene = RICH.text(3, "t20 t20");
                Edge.changesNothing(3, scene.then("put", 3, 3, sign), "fault", 3);
            }
            Edge.changesNothing(Edge.NONE, RICH.text(3, "t20 t20").then("put", 3, 3, 32), "fault", 3);
            // cut to a byte it is 32
            Edge.changesNothing(Edge.NONE, RICH.text(3, "t20xt20").then("put", 3, 3, 256 + 32), "fault", 3);
        });
    }

    private static void signsOfStores() {
        Edge.test("a letter is one of t w e s f d, none other", () -> {
            for (int sign = 0; sign < 256; sign++) {
                boolean letter = "twesfd".indexOf(sign) >= 0;
                boolean blank = sign == 32;
                int due = letter ? Edge.NONE : blank ? 4 : 3;
                Scene scene = Scene.NEW.text(0, "t30 21t20").then("put", 0, 3, sign);
                Edge.answers(due, scene, "fault", 0);
            }
        });
        Edge.test("a letter that is none: its place", () -> {
            faultAt(0, "x20t20");
            faultAt(3, "t20x20");
            faultAt(4, "t20 T20");
            faultAt(0, "220t20");
        });
        Edge.test("LENGTHS are 2 .. 9, one figure", () -> {
            for (int sign = 0; sign < 256; sign++) {
                boolean fits = sign >= '2' && sign <= '9';
                Scene scene = Scene.NEW.text(0, "t20tx0").then("put", 0, 4, sign);
                Edge.answers(fits ? Edge.NONE : 4, scene, "fault", 0);
            }
        });
        Edge.test("a LENGTH of 1, of 0 is none: its place", () -> {
            faultAt(1, "t10t20");
            faultAt(4, "t20t00");
        });
        Edge.test("the LENGTHS 2 and 9 are those of the TUBES", () -> {
            Edge.tells(1, 2, Scene.store("t20t90"), "tube", 0, 1);
            Edge.tells(1, 9, Scene.store("t20t90"), "tube", 1, 1);
        });
        Edge.test("MARKS are 0 .. 9, one figure", () -> {
            for (int sign = 0; sign < 256; sign++) {
                boolean fits = sign >= '0' && sign <= '9';
                Scene scene = Scene.NEW.text(0, "t20t2x").then("put", 0, 5, sign);
                Edge.answers(fits ? Edge.NONE : 5, scene, "fault", 0);
            }
        });
        Edge.test("a second figure of a MARK is none such: a letter is due", () -> {
            faultAt(3, "t210t20");
            faultAt(6, "t20t201");
        });
        Edge.test("the MARKS 0 and 9 are those of the TUBES", () -> {
            Edge.tells(1, 0, Scene.store("t20t99"), "tube", 0, 2);
            Edge.tells(1, 9, Scene.store("t20t99"), "tube", 1, 2);
        });
        Edge.test("KINDS 0 .. 5 by their letters", () -> {
            for (int kind = 0; kind <= 5; kind++) {
                Edge.tells(1, kind, Scene.store("t20" + "twesfd".charAt(kind) + "20"), "tube", 1, 0);
            }
        });
    }

    private static void endsOfStores() {
        Edge.test("TUBES are 2 to 7", () -> {
            for (int tubes = 2; tubes <= 7; tubes++) {
                good("t20".repeat(tubes), tubes);
            }
        });
        Edge.test("an eighth TUBE: its place", () -> {
            faultAt(21, "t20".repeat(8));
            faultAt(21, "t20".repeat(7) + "t");
            faultAt(23, "t20".repeat(7) + "  t20");
            faultAt(59, "t20".repeat(7) + blanks(38) + "t");
        });
        Edge.test("the first FAULT counts, not a later one", () -> {
            faultAt(1, "t10x20");
            faultAt(2, "t2xt1");
            faultAt(4, "t20t1" + "t20".repeat(7));
        });
        Edge.test("the TEXT's size, if its end comes behind a letter", () -> {
            faultAt(1, "t");
            faultAt(4, "t20t");
            faultAt(7, "t20t20w");
        });
        Edge.test("the TEXT's size, if its end comes behind a LENGTH", () -> {
            faultAt(2, "t2");
            faultAt(5, "t20t2");
            faultAt(60, blanks(58) + "t2");
        });
        Edge.test("the TEXT's size, if there is one TUBE alone", () -> {
            faultAt(3, "t20");
            faultAt(4, " t20");
            faultAt(9, "t20      ");
            faultAt(60, "t20" + blanks(57));
        });
        Edge.test("the TEXT's size, if there are blanks alone", () -> {
            faultAt(1, " ");
            faultAt(60, blanks(60));
        });
        Edge.test("the TEXT's size, 0, if it is empty", () -> faultAt(0, ""));
        Edge.test("what a longer TEXT had ahead does not count", () -> {
            Scene scene = RICH.text(3, "t20t20t20").then("text", 3, 3);
            Edge.changesNothing(3, scene, "fault", 3);
        });
    }

    // ---- TUBES

    private static void slotsAndWords() {
        Edge.test("a TUBE has as many SLOTS as its LENGTH", () -> {
            for (int length = 2; length <= 9; length++) {
                Scene scene = Scene.store("t20t" + length + "0");
                Edge.answers(1 << length - 1, scene, "set", 1, length - 1);
                Edge.refused(Edge.BAD, scene, "set", 1, length);
                Edge.answers(length + 2, scene, "count", 4);
            }
        });
        Edge.test("SLOT 0 is bit 0, at the end: it comes out first", () -> {
            Scene scene = Scene.store("t20t90").then("set", 1, 0);
            Edge.tells(1, 1, scene, "tube", 1, 3);
            Edge.tells(1, 1, scene, "finds", 1, 1, 1);
        });
        Edge.test("the last SLOT is at the beginning: it comes out last", () -> {
            for (int length = 2; length <= 9; length++) {
                Scene scene = Scene.store("t20t" + length + "0").then("set", 1, length - 1);
                Edge.tells(length, 1, scene, "finds", 1, 1, 1);
            }
        });
    }

    /**
     * A TUBE of a KIND with LENGTH 3 that a TUBE leads to, at a TICK, with its last SLOT and what comes so: tube() tells what
     * would be SENT, and the TICK sends it.
     */
    private static void sent(int want, char letter, int mark, int tick, int last, int in) {
        Scene scene = Scene.store(letter + "3" + mark + "t20").then("swap", 0, 1).times(tick, "tick")
            .tried("word", 0, last * 4).tried("word", 1, in);
        String name = letter + " of MARK " + mark + " in TICK " + tick + " with last SLOT " + last + " for " + in;
        Edge.due(name + " would be SENT", scene.play().told("tube", 0, 6), want);
        if (letter != 's' || tick % 2 == 0) {
            Edge.due(name + " is SENT", scene.then("tick").play().told("tube", 0, 3), last * 2 + want * 4);
        }
    }

    private static void sentInByKind() {
        int[] both = {0, 1};
        Edge.test("by a TUBE, a SLOW one that which came out, in all TICKS", () -> {
            for (int tick = 0; tick <= 6; tick++) {
                for (int last : both) {
                    for (int in : both) {
                        sent(in, 't', 0, tick, last, in);
                        sent(in, 's', 0, tick, last, in);
                    }
                }
            }
        });
        Edge.test("by a WEAK one nothing in TICKS that its MARK and 2 divides", () -> {
            for (int mark = 0; mark <= 9; mark++) {
                int[] struck = {0, mark + 2, 2 * (mark + 2)};
                for (int tick : struck) {
                    for (int last : both) {
                        sent(0, 'w', mark, tick, last, 1);
                        sent(0, 'w', mark, tick, last, 0);
                    }
                }
            }
        });
        Edge.test("by a WEAK one that which came out one TICK ahead and behind", () -> {
            for (int mark = 0; mark <= 9; mark++) {
                int[] others = {1, mark + 1, mark + 3};
                for (int tick : others) {
                    for (int last : both) {
                        sent(1, 'w', mark, tick, last, 1);
                        sent(0, 'w', mark, tick, last, 0);
                    }
                }
            }
        });
        Edge.test("by an ECHO a PULSE in TICKS that its MARK and 2 divides, if its last SLOT has one", () -> {
            for (int mark = 0; mark <= 9; mark++) {
                sent(1, 'e', mark, 0, 1, 0);
                sent(1, 'e', mark, mark + 2, 1, 0);
                sent(1, 'e', mark, mark + 2, 1, 1);
            }
        });
        Edge.test("by an ECHO that which came out in other TICKS, or if its last SLOT has none", () -> {
            for (int mark = 0; mark <= 9; mark++) {
                sent(0, 'e', mark, mark + 1, 1, 0);
                sent(0, 'e', mark, mark + 3, 1, 0);
                sent(1, 'e', mark, mark + 1, 1, 1);
                sent(0, 'e', mark, mark + 2, 0, 0);
                sent(1, 'e', mark, mark + 2, 0, 1);
                sent(0, 'e', mark, 0, 0, 0);
            }
        });
        Edge.test("by a FLIP one a PULSE for nothing, nothing for one, in TICKS that its MARK and 2 divides", () -> {
            for (int mark = 0; mark <= 9; mark++) {
                for (int last : both) {
                    sent(1, 'f', mark, 0, last, 0);
                    sent(0, 'f', mark, 0, last, 1);
                    sent(1, 'f', mark, mark + 2, last, 0);
                    sent(0, 'f', mark, mark + 2, last, 1);
                }
            }
        });
        Edge.test("by a FLIP one that which came out one TICK ahead and behind", () -> {
            for (int mark = 0; mark <= 9; mark++) {
                for (int last : both) {
                    sent(0, 'f', mark, mark + 1, last, 0);
                    sent(1, 'f', mark, mark + 1, last, 1);
                    sent(0, 'f', mark, mark + 3, last, 0);
                    sent(1, 'f', mark, mark + 3, last, 1);
                }
            }
        });
        Edge.test("by a DULL one nothing in TICKS that 3 divides, if its last SLOT has none", () -> {
            for (int mark = 0; mark <= 9; mark++) {
                int[] dull = {0, 3, 6, 9, 12};
                for (int tick : dull) {
                    sent(0, 'd', mark, tick, 0, 1);
                    sent(0, 'd', mark, tick, 0, 0);
                }
            }
        });
        Edge.test("by a DULL one as by an ECHO in other TICKS, if its last SLOT has none", () -> {
            int[] others = {1, 2, 4, 5, 7, 8, 10, 11};
            for (int mark = 0; mark <= 9; mark += 3) {
                for (int tick : others) {
                    sent(1, 'd', mark, tick, 0, 1);
                    sent(0, 'd', mark, tick, 0, 0);
                }
            }
        });
        Edge.test("by a DULL one as by an ECHO, if its last SLOT has one", () -> {
            for (int mark = 0; mark <= 9; mark++) {
                sent(1, 'd', mark, 0, 1, 0);
                sent(1, 'd', mark, mark + 2, 1, 0);
                sent(1, 'd', mark, mark + 2, 1, 1);
                sent(0, 'd', mark, mark + 1, 1, 0);
                sent(1, 'd', mark, mark + 1, 1, 1);
                sent(0, 'd', mark, mark + 3, 1, 0);
            }
            // 3 divides it, its MARK and 2 does not
            sent(0, 'd', 0, 3, 1, 0);
            sent(1, 'd', 0, 3, 1, 1);
        });
        Edge.test("the last SLOT as it was ahead of the TICK counts", () -> {
            // the ECHO's last SLOT has a PULSE that goes on in this TICK
            Edge.tells(1, 3, Scene.store("e20t20").words(2).then("tick"), "tube", 0, 3);
            // and here it gets one only in it
            Edge.tells(1, 2, Scene.store("e20t20").then("swap", 0, 1).words(0, 1).then("tick"), "tube", 0, 3);
        });
    }

    // ---- TICKS

    private static void atFirst() {
        Scene seven = Scene.store(Scenes.ALL_KINDS);
        Edge.test("at first it is TICK 0", () -> Edge.answers(0, seven, "count", 1));
        Edge.test("at first all SLOTS are without PULSES", () -> {
            Edge.answers(0, seven, "count", 3);
            Edge.answers(127, seven, "count", 5);
        });
        Edge.test("at first each TUBE's WAY leads to itself", () -> {
            for (int i = 0; i < 7; i++) {
                Edge.tells(1, i, seven, "tube", i, 4);
            }
        });
        Edge.test("at first there is no STORE's TUBE", () -> {
            Edge.answers(0, Scene.NEW, "count", 0);
            Edge.refused(Edge.BAD, NO_TUBES, "tube", 0, 0);
        });
    }

    private static void readyAndLost() {
        Scene slow = Scene.store("s30t30");
        Edge.test("a SLOW one is READY in TICKS of an even number, TICK 0 the first", () -> {
            for (int tick = 0; tick <= 8; tick++) {
                Edge.tells(1, 1 - tick % 2, slow.times(tick, "tick"), "tube", 0, 5);
            }
        });
        Edge.test("all others are always READY", () -> {
            String letters = "twefd";
            for (int kind = 0; kind < 5; kind++) {
                Scene scene = Scene.store(letters.charAt(kind) + "20t20");
                Edge.tells(1, 1, scene, "tube", 0, 5);
                Edge.tells(1, 1, scene.then("tick"), "tube", 0, 5);
            }
        });
        Edge.test("one that does not MOVE keeps its WORD", () -> {
            Edge.tells(1, 6, slow.words(5).then("tick"), "tube", 0, 3);
            Edge.tells(1, 6, slow.words(5).times(2, "tick"), "tube", 0, 3);
            Edge.tells(1, 3, slow.words(5).times(3, "tick"), "tube", 0, 3);
        });
        Edge.test("of a TUBE that does not MOVE nothing comes out", () -> {
            // the SLOW one leads to the other one
            Scene led = slow.then("swap", 0, 1).then("tick").words(7);
            Edge.tells(1, 0, led.then("tick"), "tube", 1, 3);
            Edge.tells(1, 4, led.times(2, "tick"), "tube", 1, 3);
        });
        Edge.test("what comes out of a TUBE whose WAY leads to one that does not MOVE is lost", () -> {
            Scene led = slow.then("swap", 0, 1).then("tick").words(0, 7);
            Edge.answers(2, led, "tick");
            Edge.answers(2, led.then("tick"), "tick");
            Edge.tells(1, 4, led.times(2, "tick"), "tube", 0, 3);
        });
        Edge.test("a PULSE comes round again behind as many TICKS as there are SLOTS", () -> {
            for (int length = 2; length <= 9; length++) {
                Scene scene = Scene.store("t" + length + "0t20").words(1);
                Edge.tells(length, 1, scene, "round");
            }
            Edge.tells(63, 1, Scenes.ring("t90".repeat(7), 7).words(1), "round");
        });
    }

    private static void limitOfDeeds() {
        Scene plain = Scene.store("t30t90");
        Edge.test("DEEDS are 40 at most: the 40th is done, the next one is FULL", () -> {
            Scene nearly = plain.times(39, "tick");
            Edge.answers(0, nearly, "tick");
            Edge.answers(40, nearly.then("tick"), "count", 2);
            Edge.refused(Edge.FULL, nearly.then("tick"), "tick");
        });
        Edge.test("each of the four DEEDS counts as one", () -> {
            Edge.answers(1, plain.then("tick"), "count", 2);
            Edge.answers(1, plain.then("set", 0, 0), "count", 2);
            Edge.answers(1, plain.then("swap", 0, 1), "count", 2);
            Edge.answers(1, plain.then("word", 0, 1), "count", 2);
        });
        Edge.test("what comes is told beyond TICK 99, too", () -> {
            // from TICK 0 on the FLIP one's WORDS are 0 4 2 5 6 7 7 3 5 2 1 0, and again behind 12 TICKS
            Scene late = Scene.store("f30t20").times(40, "tick");
            Edge.tells(5, 2, late, "later", 0, 59);
            Edge.tells(6, 2, late, "later", 0, 60);
        });
    }

    private static void limitOfCalls() {
        Edge.test("at most 512 calls: the 512th tells of 511 FINDINGS", () -> {
            Played x = new Played();
            for (int n = 0; n < 511; n++) {
                x.ask("row", 0, -1);
            }
            Edge.due("findings(5)", x.ask("findings", 5), 511);
        });
        Edge.test("at most 512 calls: DEEDS done and undone 12 times are done and told as the first ones", () -> {
            Played x = Scene.store("t30t40").play();
            for (int round = 0; round < 12; round++) {
                Edge.due("word(0, 5)", x.ask("word", 0, 5), 0);
                for (int n = 0; n < 38; n++) {
                    x.ask("tick");
                }
                Edge.due("tube(0, 3)", x.told("tube", 0, 3), 3);
                Edge.due("undo(0)", x.ask("undo", 0), 39);
            }
        });
        Edge.test("at most 512 calls: STORES laid anew again and again", () -> {
            Played x = Scene.store("t30t40").play();
            for (int n = 0; n < 240; n++) {
                x.ask("tick");
                Edge.due("store(0)", x.ask("store", 0), 2);
            }
            Edge.due("count(1)", x.ask("count", 1), 0);
            Edge.due("count(2)", x.ask("count", 2), 0);
        });
    }
}
