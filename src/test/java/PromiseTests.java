/** For each promise of the document: ordinary inputs, the edges that it names, and what is refused. */
public final class PromiseTests {
    private static final int NOTHING = 1, BEYOND = 2, UNLIKE = 3, NOUGHT = 4, SIZE = 5;
    private static final int LOWEST = Integer.MIN_VALUE, HIGHEST = Integer.MAX_VALUE;
    private static int wrong = 0;
    private static int checks = 0;

    private static void due(int promise, String call, long got, long want) {
        checks++;
        if (got != want) {
            wrong++;
            System.out.println("promise " + promise + ": " + call + " answered " + got + ", due is " + want);
        }
    }

    private static void dueFinding(int promise, String call, TubeWords x, int got, int finding) {
        due(promise, call, got, TubeWords.FINDING);
        due(promise, call + " finding()", x.finding(), finding);
    }

    private static void write(TubeWords x, int t, String text) {
        x.text(t, text.length());
        for (int i = 0; i < text.length(); i++) {
            x.put(t, i, text.charAt(i));
        }
    }

    private static TubeWords laid(String text) {
        TubeWords x = new TubeWords();
        write(x, 0, text);
        if (x.store(0) < 0) {
            throw new IllegalStateException("no STORE: " + text);
        }
        return x;
    }

    private static void fillRow(TubeWords x, int r, int... values) {
        x.row(r, values.length);
        for (int i = 0; i < values.length; i++) {
            x.lay(r, i, values[i]);
        }
    }

    private static int place(TubeWords x, int r, int i) {
        return x.at(r, i) == 1 ? x.asked() : -12345;
    }

    private static int fact(TubeWords x, int i, int what) {
        return x.tube(i, what) == 1 ? x.asked() : -12345;
    }

    private static void ticks(TubeWords x, int n) {
        for (int t = 0; t < n; t++) {
            x.tick();
        }
    }

    public static void main(String[] args) {
        newObject();
        rows();
        copying();
        meaning();
        texts();
        faults();
        stores();
        tubeFacts();
        sentByKind();
        marks();
        ticking();
        waysAndSlowOnes();
        setting();
        swapping();
        wording();
        full();
        undoing();
        keeping();
        latering();
        hearing();
        finding();
        rounding();
        leaving();
        besting();
        safesting();
        kindsHeard();
        wordsHeard();
        testing();
        duelling();
        chances();
        lots();
        askedOnes();
        counts();
        findings();
        digests();
        refusedChangesNothing();
        System.out.println(checks + " answers looked at, " + wrong + " not as due");
        if (wrong != 0) {
            System.exit(1);
        }
    }

    private static void newObject() {
        TubeWords x = new TubeWords();
        for (int what = 0; what <= 10; what++) {
            due(1, "count(" + what + ")", x.count(what), 0);
        }
        due(35, "asked()", x.asked(), 0);
        due(36, "upper()", x.upper(), 0);
        due(37, "lower()", x.lower(), 1);
        due(39, "finding()", x.finding(), 0);
        for (int f = 1; f <= 5; f++) {
            due(40, "findings(" + f + ")", x.findings(f), 0);
        }
        long h = 17;
        for (int i = 0; i < 11; i++) {
            h = 31 * h;
        }
        for (int i = 0; i < 3 + 6 + 4; i++) {
            h = 31 * h - 1;
        }
        due(41, "digest()", x.digest(), h);
        due(19, "keep(0)", x.keep(0), TubeWords.STATE);
        dueFinding(20, "on(0)", x, x.on(0), NOTHING);
    }

    private static void rows() {
        TubeWords x = new TubeWords();
        due(2, "row(0, 40)", x.row(0, 40), 40);
        due(2, "row(5, 0)", x.row(5, 0), 0);
        due(2, "row(0, 41)", x.row(0, 41), TubeWords.BAD);
        due(2, "row(-1, 1)", x.row(-1, 1), TubeWords.BAD);
        due(2, "row(6, 1)", x.row(6, 1), TubeWords.BAD);
        due(2, "row(6, -1)", x.row(6, -1), TubeWords.BAD);
        dueFinding(2, "row(1, -1)", x, x.row(1, -1), SIZE);
        dueFinding(2, "row(1, lowest)", x, x.row(1, LOWEST), SIZE);
        due(2, "row(1, highest)", x.row(1, HIGHEST), TubeWords.BAD);
        due(2, "count(6)", x.count(6), 2);

        due(3, "lay(0, 39, 7)", x.lay(0, 39, 7), 1);
        due(3, "asked()", x.asked(), 0);
        due(3, "lay(0, 39, lowest)", x.lay(0, 39, LOWEST), 1);
        due(3, "asked()", x.asked(), 7);
        due(3, "lay(6, 0, 1)", x.lay(6, 0, 1), TubeWords.BAD);
        due(3, "lay(-1, 0, 1)", x.lay(-1, 0, 1), TubeWords.BAD);
        dueFinding(3, "lay(1, 0, 1)", x, x.lay(1, 0, 1), NOTHING);
        dueFinding(3, "lay(1, -1, 1)", x, x.lay(1, -1, 1), NOTHING);
        dueFinding(3, "lay(0, 40, 1)", x, x.lay(0, 40, 1), BEYOND);
        dueFinding(3, "lay(0, -1, 1)", x, x.lay(0, -1, 1), BEYOND);
        dueFinding(3, "lay(5, 0, 1)", x, x.lay(5, 0, 1), BEYOND);

        due(4, "at(0, 39)", x.at(0, 39), 1);
        due(4, "asked()", x.asked(), LOWEST);
        due(4, "at(0, 0)", x.at(0, 0), 1);
        due(4, "asked()", x.asked(), 0);
        due(4, "at(6, 0)", x.at(6, 0), TubeWords.BAD);
        dueFinding(4, "at(1, 0)", x, x.at(1, 0), NOTHING);
        dueFinding(4, "at(0, 40)", x, x.at(0, 40), BEYOND);
        dueFinding(4, "at(0, lowest)", x, x.at(0, LOWEST), BEYOND);

        x.lay(0, 0, 5);
        due(2, "row(0, 40)", x.row(0, 40), 40);
        due(2, "place 0 anew", place(x, 0, 0), 0);
        due(2, "place 39 anew", place(x, 0, 39), 0);
        due(5, "tear(0)", x.tear(0), 1);
        dueFinding(5, "tear(0)", x, x.tear(0), NOTHING);
        due(5, "tear(6)", x.tear(6), TubeWords.BAD);
        due(5, "tear(-1)", x.tear(-1), TubeWords.BAD);
        due(5, "count(6)", x.count(6), 1);
    }

    private static void copying() {
        TubeWords x = new TubeWords();
        fillRow(x, 0, 1, 2, 3, 4, 5);
        x.row(1, 3);
        due(6, "copy(0, 2, 1, 0, 3)", x.copy(0, 2, 1, 0, 3), 1);
        due(6, "place", place(x, 1, 0) * 100 + place(x, 1, 1) * 10 + place(x, 1, 2), 345);
        due(6, "copy(0, 0, 0, 1, 4)", x.copy(0, 0, 0, 1, 4), 1);
        due(6, "places onward", place(x, 0, 1) * 1000 + place(x, 0, 2) * 100 + place(x, 0, 3) * 10 + place(x, 0, 4), 1234);
        due(6, "copy(0, 1, 0, 0, 4)", x.copy(0, 1, 0, 0, 4), 1);
        due(6, "places back", place(x, 0, 0) * 1000 + place(x, 0, 1) * 100 + place(x, 0, 2) * 10 + place(x, 0, 3), 1234);
        due(6, "copy(0, 5, 1, 3, 0)", x.copy(0, 5, 1, 3, 0), 1);
        dueFinding(6, "copy(0, 6, 1, 0, 0)", x, x.copy(0, 6, 1, 0, 0), BEYOND);
        dueFinding(6, "copy(0, 0, 1, -1, 0)", x, x.copy(0, 0, 1, -1, 0), BEYOND);
        dueFinding(6, "copy(0, 3, 1, 0, 3)", x, x.copy(0, 3, 1, 0, 3), BEYOND);
        dueFinding(6, "copy(0, 0, 1, 1, 3)", x, x.copy(0, 0, 1, 1, 3), BEYOND);
        dueFinding(6, "copy(0, highest, 1, 0, highest)", x, x.copy(0, HIGHEST, 1, 0, HIGHEST), BEYOND);
        dueFinding(6, "copy(0, -1, 1, 0, 1)", x, x.copy(0, -1, 1, 0, 1), BEYOND);
        dueFinding(6, "copy(0, 9, 3, 9, 1)", x, x.copy(0, 9, 3, 9, 1), NOTHING);
        dueFinding(6, "copy(3, 9, 0, 9, 1)", x, x.copy(3, 9, 0, 9, 1), NOTHING);
        dueFinding(6, "copy(3, 0, 0, 0, -1)", x, x.copy(3, 0, 0, 0, -1), SIZE);
        due(6, "copy(6, 0, 0, 0, -1)", x.copy(6, 0, 0, 0, -1), TubeWords.BAD);
        due(6, "copy(0, 0, 6, 0, 1)", x.copy(0, 0, 6, 0, 1), TubeWords.BAD);
        due(6, "copy(0, 0, -1, 0, 1)", x.copy(0, 0, -1, 0, 1), TubeWords.BAD);
    }

    private static void meaning() {
        TubeWords x = new TubeWords();
        fillRow(x, 0, 1, 2, 5);
        due(7, "mean(0)", x.mean(0), 1);
        due(7, "asked()", x.asked(), 2);
        fillRow(x, 0, -1, -2, -5);
        x.mean(0);
        due(7, "mean below 0, cut", x.asked(), -2);
        fillRow(x, 0, HIGHEST, HIGHEST, HIGHEST);
        x.mean(0);
        due(7, "mean of the highest", x.asked(), HIGHEST);
        fillRow(x, 0, LOWEST, LOWEST);
        x.mean(0);
        due(7, "mean of the lowest", x.asked(), LOWEST);
        x.row(1, 0);
        dueFinding(7, "mean(1)", x, x.mean(1), NOUGHT);
        dueFinding(7, "mean(2)", x, x.mean(2), NOTHING);
        due(7, "mean(6)", x.mean(6), TubeWords.BAD);
        due(7, "mean(-1)", x.mean(-1), TubeWords.BAD);
    }

    private static void texts() {
        TubeWords x = new TubeWords();
        due(8, "text(3, 60)", x.text(3, 60), 60);
        due(8, "text(0, 0)", x.text(0, 0), 0);
        due(8, "text(4, 0)", x.text(4, 0), TubeWords.BAD);
        due(8, "text(-1, 0)", x.text(-1, 0), TubeWords.BAD);
        due(8, "text(0, 61)", x.text(0, 61), TubeWords.BAD);
        due(8, "text(4, -1)", x.text(4, -1), TubeWords.BAD);
        dueFinding(8, "text(0, -1)", x, x.text(0, -1), SIZE);
        due(8, "count(7)", x.count(7), 2);
        due(9, "put(3, 59, 255)", x.put(3, 59, 255), 1032);
        due(9, "put(3, 59, 128)", x.put(3, 59, 128), 999);
        due(9, "put(3, 59, 256 + 65)", x.put(3, 59, 256 + 65), 872);
        due(9, "put(3, 59, -1)", x.put(3, 59, -1), 1065);
        due(9, "put(3, 59, 0)", x.put(3, 59, 0), 999);
        dueFinding(9, "put(3, 60, 0)", x, x.put(3, 60, 0), BEYOND);
        dueFinding(9, "put(3, -1, 0)", x, x.put(3, -1, 0), BEYOND);
        dueFinding(9, "put(0, 0, 0)", x, x.put(0, 0, 0), BEYOND);
        dueFinding(9, "put(1, 99, 0)", x, x.put(1, 99, 0), NOTHING);
        due(9, "put(4, 0, 0)", x.put(4, 0, 0), TubeWords.BAD);
        due(9, "put(-1, 0, 0)", x.put(-1, 0, 0), TubeWords.BAD);
        x.put(3, 0, 65);
        x.text(3, 60);
        due(8, "a TEXT anew is blank", x.put(3, 0, 0), 1032);
        due(8, "a TEXT anew is blank", x.put(3, 59, 0), 1032);
    }

    private static void faults() {
        String[] texts = {
            "", "   ", "t20t20", "t20", "t20   ", " t20 t20 ", "t20t2", "t20t", "t20t1", "t20t20x", "t20t20t",
            "t10t20", "t2 0t20", "t 20t20", "t2:t20", "t2/t20", "t:0t20", "t99w00", "T20t20", "t20,t20",
            "t20w31e42s53f64d75t86", "t20w31e42s53f64d75t86 ", "t20w31e42s53f64d75t86 x", "t20w31e42s53f64d75t86  t20",
            "5", "t20 5"
        };
        int[] want = {
            0, 3, -9, 3, 6, -9, 5, 4, 4, 6, 7,
            1, 2, 1, 2, 2, 1, 4, 0, 3,
            -9, -9, 22, 23,
            0, 4
        };
        TubeWords x = new TubeWords();
        for (int i = 0; i < texts.length; i++) {
            int due = want[i];
            x = new TubeWords();
            write(x, 1, texts[i]);
            due(10, "fault of '" + texts[i] + "'", x.fault(1), due);
            int stored = x.store(1);
            due(11, "store of '" + texts[i] + "'", stored < 0 ? stored : 1, due == TubeWords.NONE ? 1 : TubeWords.STATE);
        }
        write(x, 1, "t20t20");
        x.put(1, 5, 0);
        due(10, "fault with a byte 0", x.fault(1), 5);
        x.put(1, 5, 200);
        due(10, "fault with a byte below 0", x.fault(1), 5);
        dueFinding(10, "fault(0)", x, x.fault(0), NOTHING);
        due(10, "fault(4)", x.fault(4), TubeWords.BAD);
        due(10, "fault(-1)", x.fault(-1), TubeWords.BAD);
    }

    private static void stores() {
        TubeWords x = laid("t30 w41");
        x.word(0, 5);
        x.swap(0, 1);
        x.tick();
        x.keep(0);
        x.keep(2);
        dueFinding(11, "store(1)", x, x.store(1), NOTHING);
        due(11, "store(4)", x.store(4), TubeWords.BAD);
        write(x, 1, "t30");
        due(11, "store(1) with a FAULT", x.store(1), TubeWords.STATE);
        due(11, "all as it was: DEEDS", x.count(2), 3);
        due(11, "all as it was: kept", x.count(8), 2);
        write(x, 1, "t20w31e42s53f64d75t86");
        due(11, "store(1)", x.store(1), 7);
        due(11, "TICK", x.count(1), 0);
        due(11, "DEEDS", x.count(2), 0);
        due(11, "PULSES", x.count(3), 0);
        due(11, "kept", x.count(8), 0);
        dueFinding(11, "on(0)", x, x.on(0), NOTHING);
        int[] kinds = {0, 1, 2, 3, 4, 5, 0};
        for (int i = 0; i < 7; i++) {
            due(11, "KIND of " + i, fact(x, i, 0), kinds[i]);
            due(11, "LENGTH of " + i, fact(x, i, 1), 2 + i);
            due(11, "MARK of " + i, fact(x, i, 2), i);
            due(11, "WAY of " + i, fact(x, i, 4), i);
        }
    }

    private static void tubeFacts() {
        TubeWords x = laid("t39 s30");
        due(12, "tube(2, 0)", x.tube(2, 0), TubeWords.BAD);
        due(12, "tube(-1, 0)", x.tube(-1, 0), TubeWords.BAD);
        due(12, "tube(0, 7)", x.tube(0, 7), TubeWords.BAD);
        due(12, "tube(0, -1)", x.tube(0, -1), TubeWords.BAD);
        x.word(0, 1);
        x.word(1, 1);
        x.swap(0, 1);
        due(12, "WORD", fact(x, 0, 3), 1);
        due(12, "WAY", fact(x, 0, 4), 1);
        due(12, "READY at 0", fact(x, 1, 5), 1);
        due(12, "SENT to 0 at TICK 0", fact(x, 0, 6), 1);
        x.tick();
        due(12, "READY at 1", fact(x, 1, 5), 0);
        x.set(0, 0);
        x.set(1, 0);
        due(12, "word of 1", fact(x, 1, 3), 5);
        due(12, "SENT to the SLOW one though it is not READY", fact(x, 1, 6), 1);
        due(12, "of a TUBE that does not MOVE nothing comes", fact(x, 0, 6), 0);
    }

    /** One tube of the kind, a plain one that leads to it: what is sent for 0, 1 by last slot and tick. */
    private static void sentByKind() {
        String letters = "twesfd";
        for (int kind = 0; kind < 6; kind++) {
            for (int bits = 0; bits < 4; bits++) {
                TubeWords x = laid(letters.charAt(kind) + "32t90");
                x.swap(0, 1);
                int in = bits & 1;
                int last = bits >> 1;
                x.word(1, in * 511);
                x.word(0, last * 4);
                for (int t = 0; t < 12; t++) {
                    // MARK 2: every fourth TICK
                    boolean struck = t % 4 == 0;
                    int want = in;
                    if (kind == 1 && struck) {
                        want = 0;
                    } else if (kind == 2 && struck && last == 1) {
                        want = 1;
                    } else if (kind == 4 && struck) {
                        want = 1 - in;
                    } else if (kind == 5 && last == 1 && struck) {
                        want = 1;
                    } else if (kind == 5 && last == 0 && t % 3 == 0) {
                        want = 0;
                    }
                    due(12, "SENT by " + letters.charAt(kind) + " in TICK " + t + " for " + in + " with last " + last,
                            fact(x, 0, 6), want);
                    x.tick();
                    if (kind != 3 || t % 2 == 0) {
                        due(14, "sent in by " + letters.charAt(kind) + " in TICK " + t, fact(x, 0, 3) >> 2, want);
                    }
                    x.word(0, last * 4);
                    x.word(1, in * 511);
                }
            }
        }
    }

    private static void marks() {
        TubeWords x = laid("t30w31e31s49f31d31");
        int[][] is = {{}, {1}, {2}, {3}, {1, 4}, {2, 5}};
        for (int i = 0; i < 6; i++) {
            for (int kind = 1; kind <= 5; kind++) {
                boolean fits = false;
                for (int k : is[i]) {
                    fits |= k == kind;
                }
                int got = x.mark(i, kind);
                due(13, "mark(" + i + ", " + kind + ") fits", got == TubeWords.FINDING ? 0 : 1, fits ? 1 : 0);
            }
        }
        dueFinding(13, "mark(0, 1)", x, x.mark(0, 1), UNLIKE);
        due(13, "mark(0, 0)", x.mark(0, 0), TubeWords.BAD);
        due(13, "mark(0, 6)", x.mark(0, 6), TubeWords.BAD);
        due(13, "mark(0, -1)", x.mark(0, -1), TubeWords.BAD);
        due(13, "mark(6, 1)", x.mark(6, 1), TubeWords.BAD);
        due(13, "mark(-1, 1)", x.mark(-1, 1), TubeWords.BAD);
        due(13, "SLOW", x.mark(3, 3), 8);
        int[] behind = {0, 2, 1, 0};
        for (int t = 0; t < 4; t++) {
            due(13, "WEAK at " + t, x.mark(1, 1), behind[t]);
            due(13, "FLIP as WEAK at " + t, x.mark(4, 1), behind[t]);
            x.tick();
        }
        TubeWords far = laid("w99t20");
        far.tick();
        due(13, "WEAK of MARK 9", far.mark(0, 1), 10);
        marksOfEchoes();
        marksOfFlips();
    }

    private static void marksOfEchoes() {
        TubeWords x = laid("e31d31");
        due(13, "ECHO without a last one", x.mark(0, 2), 0);
        due(13, "DULL without a last one, as ECHO", x.mark(1, 2), 1);
        due(13, "DULL for nothing is as an ECHO", x.mark(1, 5), 0);
        x.word(1, 1);
        due(13, "DULL for a PULSE is not", x.mark(1, 5), 1);
        x.word(0, 4);
        x.word(1, 5);
        due(13, "ECHO with a last one", x.mark(0, 2), 1);
        due(13, "DULL with a last one, as ECHO", x.mark(1, 2), 1);
        due(13, "DULL with a last one is as an ECHO", x.mark(1, 5), 0);
        x.tick();
        due(13, "ECHO in another TICK", x.mark(0, 2), 0);
        due(13, "DULL in another TICK", x.mark(1, 2), 0);
    }

    private static void marksOfFlips() {
        TubeWords x = laid("f31w31");
        due(13, "FLIP for nothing", x.mark(0, 4), 1);
        x.word(0, 1);
        due(13, "FLIP for a PULSE", x.mark(0, 4), 0);
        x.swap(0, 1);
        due(13, "FLIP for nothing of another one", x.mark(0, 4), 1);
        x.tick();
        due(13, "FLIP in another TICK", x.mark(0, 4), 0);
    }

    private static void ticking() {
        TubeWords none = new TubeWords();
        due(14, "tick() without TUBES", none.tick(), TubeWords.STATE);
        TubeWords x = laid("t30t40");
        x.word(0, 3);
        x.word(1, 8);
        due(14, "tick()", x.tick(), 3);
        due(14, "WORD", fact(x, 0, 3), 5);
        due(14, "WORD", fact(x, 1, 3), 4);
        due(14, "TICK", x.count(1), 1);
        due(14, "DEEDS", x.count(2), 3);
        TubeWords lost = laid("w30w30");
        lost.word(0, 7);
        lost.word(1, 1);
        due(14, "tick() of WEAK ones", lost.tick(), 2);
        due(14, "tick() of WEAK ones", lost.tick(), 2);
        due(14, "tick() of WEAK ones", lost.tick(), 1);
    }

    private static void waysAndSlowOnes() {
        TubeWords x = laid("t30t40t20");
        x.swap(0, 1);
        x.swap(1, 2);
        // 0 leads to 1, 1 to 2, 2 to 0
        x.word(0, 1);
        due(14, "one goes over", x.tick(), 1);
        due(14, "it is in 1", fact(x, 1, 3), 8);
        ticks(x, 4);
        due(14, "it is in 2", fact(x, 2, 3), 2);
        ticks(x, 2);
        due(14, "it is in 0", fact(x, 0, 3), 4);

        TubeWords slow = laid("s30t40");
        slow.swap(0, 1);
        slow.word(1, 15);
        due(14, "TICK 0 to a SLOW one", slow.tick(), 4);
        due(14, "SLOW WORD", fact(slow, 0, 3), 4);
        due(14, "TICK 1: what comes is lost", slow.tick(), 3);
        due(14, "SLOW WORD", fact(slow, 0, 3), 4);
        due(14, "TICK 2", slow.tick(), 3);
        due(14, "SLOW WORD", fact(slow, 0, 3), 6);
    }

    private static void setting() {
        TubeWords x = laid("t30t90");
        due(15, "set(0, 2)", x.set(0, 2), 4);
        due(15, "set(0, 0)", x.set(0, 0), 5);
        due(15, "set(0, 2)", x.set(0, 2), 1);
        due(15, "set(1, 8)", x.set(1, 8), 256);
        due(15, "set(0, 3)", x.set(0, 3), TubeWords.BAD);
        due(15, "set(1, 9)", x.set(1, 9), TubeWords.BAD);
        due(15, "set(0, -1)", x.set(0, -1), TubeWords.BAD);
        due(15, "set(2, 0)", x.set(2, 0), TubeWords.BAD);
        due(15, "set(-1, 0)", x.set(-1, 0), TubeWords.BAD);
        due(15, "DEEDS", x.count(2), 4);
        due(15, "set without TUBES", new TubeWords().set(0, 0), TubeWords.BAD);
    }

    private static void swapping() {
        TubeWords x = laid("t30t90t20");
        due(16, "swap(0, 2)", x.swap(0, 2), 2);
        due(16, "swap(2, 1)", x.swap(2, 1), 1);
        due(16, "WAY of 0", fact(x, 0, 4), 2);
        due(16, "WAY of 1", fact(x, 1, 4), 0);
        due(16, "WAY of 2", fact(x, 2, 4), 1);
        due(16, "swap(1, 1)", x.swap(1, 1), TubeWords.BAD);
        due(16, "swap(0, 3)", x.swap(0, 3), TubeWords.BAD);
        due(16, "swap(-1, 0)", x.swap(-1, 0), TubeWords.BAD);
        due(16, "swap(3, 3)", x.swap(3, 3), TubeWords.BAD);
        due(16, "swap without TUBES", new TubeWords().swap(0, 1), TubeWords.BAD);
    }

    private static void wording() {
        TubeWords x = laid("t30t90");
        due(17, "word(0, 7)", x.word(0, 7), 0);
        due(17, "word(0, 1)", x.word(0, 1), 7);
        due(17, "word(1, 511)", x.word(1, 511), 0);
        due(17, "WORD", fact(x, 1, 3), 511);
        due(17, "word(0, 1)", x.word(0, 1), TubeWords.STATE);
        due(17, "word(0, 8)", x.word(0, 8), TubeWords.BAD);
        due(17, "word(0, -1)", x.word(0, -1), TubeWords.BAD);
        due(17, "word(1, 512)", x.word(1, 512), TubeWords.BAD);
        due(17, "word(2, 0)", x.word(2, 0), TubeWords.BAD);
        due(17, "word(-1, 0)", x.word(-1, 0), TubeWords.BAD);
    }

    private static void full() {
        TubeWords x = laid("t30t90");
        for (int i = 0; i < 20; i++) {
            x.tick();
            x.set(0, 1);
        }
        due(14, "tick() at 40 DEEDS", x.tick(), TubeWords.FULL);
        due(15, "set(0, 0) at 40 DEEDS", x.set(0, 0), TubeWords.FULL);
        due(15, "set(0, 3) at 40 DEEDS", x.set(0, 3), TubeWords.BAD);
        due(16, "swap(0, 1) at 40 DEEDS", x.swap(0, 1), TubeWords.FULL);
        due(16, "swap(0, 0) at 40 DEEDS", x.swap(0, 0), TubeWords.BAD);
        due(17, "word(1, 1) at 40 DEEDS", x.word(1, 1), TubeWords.FULL);
        due(17, "word(1, 0) at 40 DEEDS", x.word(1, 0), TubeWords.STATE);
        due(17, "word(1, 512) at 40 DEEDS", x.word(1, 512), TubeWords.BAD);
        due(34, "lots(1, 1) at 40 DEEDS", x.lots(1, 1), TubeWords.FULL);
        due(34, "lots(1, 0) at 40 DEEDS", x.lots(1, 0), TubeWords.BAD);
        due(38, "TICK", x.count(1), 20);
        x.undo(39);
        due(14, "tick(), the 40th DEED", x.tick() >= 0 ? 1 : 0, 1);
        x.undo(39);
        due(15, "set(1, 3), the 40th DEED", x.set(1, 3), 8);
        x.undo(39);
        due(16, "swap(0, 1), the 40th DEED", x.swap(0, 1), 1);
        x.undo(39);
        due(17, "word(1, 1), the 40th DEED", x.word(1, 1), 0);
        due(38, "DEEDS", x.count(2), 40);
    }

    private static void undoing() {
        TubeWords x = laid("t30f31");
        due(18, "undo(1)", x.undo(1), TubeWords.BAD);
        due(18, "undo(-1)", x.undo(-1), TubeWords.BAD);
        x.word(0, 5);
        long one = x.digest();
        x.swap(0, 1);
        long two = x.digest();
        x.tick();
        x.set(1, 2);
        x.tick();
        due(18, "undo(6)", x.undo(6), TubeWords.BAD);
        due(18, "undo(5)", x.undo(5), 0);
        due(18, "undo(2)", x.undo(2), 3);
        due(18, "digest()", x.digest(), two);
        due(18, "undo(1)", x.undo(1), 1);
        due(18, "digest()", x.digest(), one);
        due(18, "undo(0)", x.undo(0), 1);
        due(18, "PULSES", x.count(3), 0);
        due(18, "undo without TUBES", new TubeWords().undo(0), 0);
    }

    private static void keeping() {
        TubeWords x = laid("t30f31");
        due(19, "keep(3)", x.keep(3), TubeWords.BAD);
        due(19, "keep(-1)", x.keep(-1), TubeWords.BAD);
        due(20, "on(3)", x.on(3), TubeWords.BAD);
        due(20, "on(-1)", x.on(-1), TubeWords.BAD);
        dueFinding(20, "on(2)", x, x.on(2), NOTHING);
        due(19, "keep(0)", x.keep(0), 0);
        x.word(0, 5);
        x.swap(0, 1);
        x.tick();
        due(19, "keep(1)", x.keep(1), 3);
        due(19, "kept", x.count(8), 2);
        long kept = x.digest();
        x.set(0, 0);
        x.tick();
        x.tick();
        due(20, "on(1)", x.on(1), 3);
        due(20, "digest()", x.digest(), kept);
        due(18, "undo(1) behind on(1)", x.undo(1), 2);
        due(18, "WORD", fact(x, 0, 3), 5);
        due(18, "WAY", fact(x, 0, 4), 0);
        due(20, "on(1) again", x.on(1), 3);
        due(20, "digest()", x.digest(), kept);
        x.undo(0);
        x.set(1, 1);
        x.tick();
        x.tick();
        x.tick();
        due(20, "on(1) behind other DEEDS", x.on(1), 3);
        due(20, "digest()", x.digest(), kept);
        due(20, "on(0)", x.on(0), 0);
        due(20, "PULSES", x.count(3), 0);
        due(19, "keep(1) over the one kept", x.keep(1), 0);
        due(20, "on(1)", x.on(1), 0);
        due(19, "keep without TUBES", new TubeWords().keep(0), TubeWords.STATE);
        due(19, "keep(3) without TUBES", new TubeWords().keep(3), TubeWords.BAD);
    }

    private static void latering() {
        TubeWords x = laid("t30w30");
        x.word(0, 3);
        x.word(1, 7);
        due(21, "later(0, 0)", x.later(0, 0), 3);
        due(21, "asked()", x.asked(), 5);
        due(21, "later(0, 1)", x.later(0, 1), 5);
        due(21, "asked()", x.asked(), 4);
        due(21, "later(0, 60)", x.later(0, 60), 3);
        due(21, "later(1, 60)", x.later(1, 60), 0);
        due(21, "asked()", x.asked(), 2);
        due(21, "TICK as it was", x.count(1), 0);
        due(21, "DEEDS as they were", x.count(2), 2);
        due(21, "WORD as it was", fact(x, 0, 3), 3);
        due(21, "later(0, 61)", x.later(0, 61), TubeWords.BAD);
        due(21, "later(0, -1)", x.later(0, -1), TubeWords.BAD);
        due(21, "later(2, 0)", x.later(2, 0), TubeWords.BAD);
        due(21, "later(-1, 0)", x.later(-1, 0), TubeWords.BAD);
        ticks(x, 38);
        due(21, "later(0, 60) from TICK 38", x.later(0, 60), fact(x, 0, 3));
        TubeWords flip = laid("f30t20");
        ticks(flip, 40);
        due(21, "TICK", flip.count(1), 40);
        // from TICK 0 on its WORDS are 0 4 2 5 6 7 7 3 5 2 1 0, and again; that goes on beyond TICK 99
        due(21, "later(0, 59) from TICK 40", flip.later(0, 59), 5);
        due(21, "later(0, 60) from TICK 40", flip.later(0, 60), 6);
    }

    private static void hearing() {
        TubeWords x = laid("t30s30");
        x.word(0, 3);
        x.word(1, 3);
        fillRow(x, 4, 9, 9, 9, 9, 9, 9, 9);
        due(22, "hears(0, 4, 4)", x.hears(0, 4, 4), 3);
        int[] plain = {1, 1, 0, 1};
        for (int t = 0; t < 4; t++) {
            due(22, "heard of 0 in " + t, place(x, 4, t), plain[t]);
        }
        dueFinding(22, "at(4, 4)", x, x.at(4, 4), BEYOND);
        due(22, "hears(1, 6, 5)", x.hears(1, 6, 5), 2);
        int[] slow = {1, -1, 1, -1, 0, -1};
        for (int t = 0; t < 6; t++) {
            due(22, "heard of 1 in " + t, place(x, 5, t), slow[t]);
        }
        due(22, "hears(1, 20, 5)", x.hears(1, 20, 5), 7);
        due(22, "hears(0, 1, 5)", x.hears(0, 1, 5), 1);
        due(22, "hears(1, 21, 5)", x.hears(1, 21, 5), TubeWords.BAD);
        due(22, "hears(1, 0, 5)", x.hears(1, 0, 5), TubeWords.BAD);
        due(22, "hears(1, 1, 6)", x.hears(1, 1, 6), TubeWords.BAD);
        due(22, "hears(1, 1, -1)", x.hears(1, 1, -1), TubeWords.BAD);
        due(22, "hears(2, 1, 0)", x.hears(2, 1, 0), TubeWords.BAD);
        due(22, "hears(-1, 1, 0)", x.hears(-1, 1, 0), TubeWords.BAD);
        due(22, "ROWS", x.count(6), 2);
        due(22, "TICK as it was", x.count(1), 0);
    }

    private static void finding() {
        TubeWords x = laid("t90s30");
        x.word(0, 0b110100110);
        x.word(1, 0b110);
        // 0 1 1 0 0 1 0 1 1 comes out, the first one first
        due(23, "finds(0, 1, 1)", x.finds(0, 1, 1), 2);
        due(23, "asked()", x.asked(), 1);
        due(23, "finds(0, 0, 1)", x.finds(0, 0, 1), 1);
        due(23, "asked()", x.asked(), 0);
        due(23, "finds(0, 1, 2)", x.finds(0, 1, 2), 4);
        due(23, "asked()", x.asked(), 2);
        due(23, "finds(0, 0, 2)", x.finds(0, 0, 2), 5);
        due(23, "finds(0, 5, 3)", x.finds(0, 5, 3), 8);
        due(23, "asked()", x.asked(), 4);
        due(23, "finds(0, 0b10100110, 8)", x.finds(0, 0b10100110, 8), 8);
        due(23, "finds(0, 0b11111111, 8)", x.finds(0, 255, 8), TubeWords.NONE);
        due(23, "asked() behind NONE", x.asked(), 4);
        due(23, "finds(1, 3, 2)", x.finds(1, 3, 2), 5);
        due(23, "asked()", x.asked(), 2);
        due(23, "finds(0, 2, 1)", x.finds(0, 2, 1), TubeWords.BAD);
        due(23, "finds(0, 256, 8)", x.finds(0, 256, 8), TubeWords.BAD);
        due(23, "finds(0, -1, 8)", x.finds(0, -1, 8), TubeWords.BAD);
        due(23, "finds(0, 0, 9)", x.finds(0, 0, 9), TubeWords.BAD);
        due(23, "finds(0, 0, 0)", x.finds(0, 0, 0), TubeWords.BAD);
        due(23, "finds(0, 0, 33)", x.finds(0, 0, 33), TubeWords.BAD);
        due(23, "finds(2, 0, 1)", x.finds(2, 0, 1), TubeWords.BAD);
        due(23, "finds(-1, 0, 1)", x.finds(-1, 0, 1), TubeWords.BAD);
        // a PULSE that needs 60 TICKS, one that would need 61
        TubeWords far = laid("t90t90t90t90t90t90t70");
        for (int i = 0; i < 6; i++) {
            far.swap(i, i + 1);
        }
        // 0 leads to 1 .. to 6 to 0: 61 SLOTS
        far.set(6, 5);
        due(23, "finds at 60", far.finds(5, 1, 1), 60);
        far.set(6, 5);
        far.set(6, 6);
        due(23, "finds at 61", far.finds(5, 1, 1), TubeWords.NONE);
    }

    private static void rounding() {
        due(24, "round() without TUBES", new TubeWords().round(), TubeWords.STATE);
        TubeWords x = laid("t30t40");
        due(24, "round() of nothing", x.round(), 1);
        due(24, "asked()", x.asked(), 0);
        x.word(0, 1);
        due(24, "round()", x.round(), 3);
        x.word(1, 1);
        due(24, "round()", x.round(), 12);
        due(24, "asked()", x.asked(), 2);
        x.swap(0, 1);
        x.word(1, 0);
        due(24, "round() through both", x.round(), 7);
        due(24, "asked()", x.asked(), 1);
        TubeWords lost = laid("w30t20");
        lost.word(0, 7);
        due(24, "round() of what is lost", lost.round(), TubeWords.NONE);
        due(24, "asked() behind NONE", lost.asked(), 0);
        TubeWords flip = laid("f20t20");
        flip.word(0, 3);
        // every even TICK turns one over: 3, 1, 2, 3
        due(24, "round() of FLIP", flip.round(), 3);
        due(24, "asked(), the fewest", flip.asked(), 1);
        TubeWords longest = laid("t80t50t30");
        longest.word(0, 1);
        longest.word(1, 1);
        longest.word(2, 1);
        due(24, "round() at 120", longest.round(), 120);
        TubeWords beyond = laid("t90t70t20");
        beyond.word(0, 1);
        beyond.word(1, 1);
        beyond.word(2, 1);
        due(24, "round() at 126", beyond.round(), TubeWords.NONE);
    }

    private static void leaving() {
        due(25, "left(0) without TUBES", new TubeWords().left(0), TubeWords.STATE);
        due(25, "left(61) without TUBES", new TubeWords().left(61), TubeWords.BAD);
        TubeWords x = laid("w30t20t20");
        x.word(0, 7);
        x.word(1, 3);
        due(25, "left(0)", x.left(0), 5);
        due(25, "asked()", x.asked(), 1);
        due(25, "left(1)", x.left(1), 4);
        due(25, "left(60)", x.left(60), 2);
        due(25, "asked()", x.asked(), 2);
        due(25, "left(61)", x.left(61), TubeWords.BAD);
        due(25, "left(-1)", x.left(-1), TubeWords.BAD);
        due(25, "TICK as it was", x.count(1), 0);
    }

    private static void besting() {
        due(26, "best(1) without TUBES", new TubeWords().best(1), TubeWords.STATE);
        due(26, "best(0) without TUBES", new TubeWords().best(0), TubeWords.BAD);
        due(26, "best(41) without TUBES", new TubeWords().best(41), TubeWords.BAD);
        TubeWords x = laid("t20t20w20t20");
        x.word(0, 0);
        x.word(2, 1);
        due(26, "best(1)", x.best(1), 2);
        due(26, "asked()", x.asked(), 1);
        due(26, "WAYS as they were", fact(x, 0, 4), 0);
        due(26, "DEEDS as they were", x.count(2), 1);
        x.word(1, 1);
        due(26, "best(1), another", x.best(1), 2);
        due(26, "asked()", x.asked(), 2);
        x.word(0, 1);
        due(26, "best(1), the third", x.best(1), 23);
        due(26, "asked()", x.asked(), 3);
        x.word(3, 1);
        due(26, "best(1), no more", x.best(1), TubeWords.NONE);
        due(26, "asked() behind NONE", x.asked(), 3);
        due(26, "best(40)", x.best(40), TubeWords.NONE);
    }

    private static void safesting() {
        due(27, "safest(0) without TUBES", new TubeWords().safest(0), TubeWords.STATE);
        due(27, "safest(512) without TUBES", new TubeWords().safest(512), TubeWords.BAD);
        due(27, "safest(-1) without TUBES", new TubeWords().safest(-1), TubeWords.BAD);
        TubeWords x = laid("t50t30t40w90");
        due(27, "safest(1)", x.safest(1), 1);
        due(27, "asked()", x.asked(), 3);
        due(27, "safest(5)", x.safest(5), 2);
        due(27, "asked()", x.asked(), 2);
        due(27, "safest(15)", x.safest(15), 2);
        due(27, "asked()", x.asked(), 1);
        due(27, "safest(16)", x.safest(16), 0);
        due(27, "asked()", x.asked(), 5);
        due(27, "safest(32)", x.safest(32), 3);
        due(27, "asked()", x.asked() > 0 ? 1 : 0, 1);
        due(27, "safest(511)", x.safest(511), TubeWords.NONE);
        due(27, "safest(0)", x.safest(0), 0);
        due(27, "asked()", x.asked(), 1);
        due(27, "safest(512)", x.safest(512), TubeWords.BAD);
        due(27, "safest(-1)", x.safest(-1), TubeWords.BAD);
        due(27, "PULSES as they were", x.count(3), 0);
        ringOf("t90t90t90t90t90t90t60", 0, 60);
        ringOf("t90t90t90t90t90t90t70", TubeWords.NONE, 0);
        TubeWords slow = laid("t30s30");
        slow.tick();
        due(27, "safest(1), one that does not MOVE", slow.safest(1), 1);
        due(27, "asked()", slow.asked(), 1);
    }

    /** All seven TUBES in one ring: a PULSE comes back behind as many TICKS as there are SLOTS. */
    private static void ringOf(String text, int safest, int behind) {
        TubeWords x = laid(text);
        for (int i = 0; i < 6; i++) {
            x.swap(i, i + 1);
        }
        due(27, "safest(1) in a ring of " + text, x.safest(1), safest);
        due(27, "asked()", x.asked(), behind);
    }

    private static void heardFindings(int promise, String name, int call) {
        TubeWords x = laid("t30t30");
        due(promise, name + "(2, 0)", hear(x, call, 2, 0), TubeWords.BAD);
        due(promise, name + "(-1, 0)", hear(x, call, -1, 0), TubeWords.BAD);
        due(promise, name + "(0, 6)", hear(x, call, 0, 6), TubeWords.BAD);
        due(promise, name + "(0, -1)", hear(x, call, 0, -1), TubeWords.BAD);
        dueFinding(promise, name + "(0, 0)", x, hear(x, call, 0, 0), NOTHING);
        x.row(0, 0);
        dueFinding(promise, name + "(0, 0) of none", x, hear(x, call, 0, 0), SIZE);
        x.row(0, 21);
        x.lay(0, 0, 2);
        dueFinding(promise, name + "(0, 0) of 21", x, hear(x, call, 0, 0), SIZE);
        x.row(0, 20);
        x.lay(0, 19, 2);
        dueFinding(promise, name + "(0, 0) with 2", x, hear(x, call, 0, 0), UNLIKE);
        x.lay(0, 19, -1);
        dueFinding(promise, name + "(0, 0) with -1", x, hear(x, call, 0, 0), UNLIKE);
        x.lay(0, 19, 0);
        due(promise, name + "(0, 0) of 20", hear(x, call, 0, 0) > 0 ? 1 : 0, 1);
        due(promise, name + " without TUBES", hear(new TubeWords(), call, 0, 0), TubeWords.BAD);
    }

    private static int hear(TubeWords x, int call, int i, int r) {
        return call == 0 ? x.kinds(i, r) : call == 1 ? x.words(i, r) : x.test(i, r);
    }

    private static void kindsHeard() {
        heardFindings(28, "kinds", 0);
        TubeWords x = laid("t31t20");
        x.word(0, 1);
        // TICKS 0, 3 are struck. A TUBE tells 1 0 0 1, a WEAK one 1 0 0 0, an ECHO 1 0 0 1, a SLOW one 1 0 0 1,
        // a FLIP one 1 0 0 0, a DULL one 1 0 0 0
        fillRow(x, 0, 1, 0, 0);
        due(28, "kinds of 1 0 0", x.kinds(0, 0), 63);
        fillRow(x, 0, 1, 0, 0, 1);
        due(28, "kinds of 1 0 0 1", x.kinds(0, 0), 1 + 4 + 8);
        fillRow(x, 0, 1, 0, 0, 0);
        due(28, "kinds of 1 0 0 0", x.kinds(0, 0), 2 + 16 + 32);
        // behind that: FLIP has in TICK 3 sent one in for nothing, to come out in TICK 6
        fillRow(x, 0, 1, 0, 0, 0, 0, 0, 1);
        due(28, "kinds of 1 0 0 0 0 0 1", x.kinds(0, 0), 16);
        fillRow(x, 0, 0);
        due(28, "kinds of 0", x.kinds(0, 0), 0);
        due(28, "KIND as it was", fact(x, 0, 0), 0);
    }

    private static void wordsHeard() {
        heardFindings(29, "words", 1);
        TubeWords x = laid("t30w30");
        x.word(0, 7);
        fillRow(x, 0, 0, 1);
        due(29, "words of 0 1", x.words(0, 0), 2);
        due(29, "asked()", x.asked(), 2);
        fillRow(x, 0, 0, 1, 1, 0);
        due(29, "words of 0 1 1 0", x.words(0, 0), 1);
        due(29, "asked()", x.asked(), 6);
        fillRow(x, 0, 0, 1, 1, 1);
        x.tube(0, 1);
        due(29, "words of 0 1 1 1", x.words(0, 0), TubeWords.NONE);
        due(29, "asked() behind NONE", x.asked(), 3);
        // what comes out in TICK 0 is lost in a WEAK one
        fillRow(x, 0, 1, 1, 0, 0, 1);
        due(29, "words of a WEAK one", x.words(1, 0), 1);
        due(29, "asked()", x.asked(), 3);
        fillRow(x, 0, 1, 1, 0, 1);
        due(29, "words of a WEAK one", x.words(1, 0), TubeWords.NONE);
        due(29, "WORD as it was", fact(x, 0, 3), 7);
        TubeWords most = laid("t90t20");
        fillRow(most, 0, 1, 1, 1, 1, 1, 1, 1, 1, 1);
        due(29, "words of nine PULSES", most.words(0, 0), 1);
        due(29, "asked()", most.asked(), 511);
    }

    private static void testing() {
        heardFindings(30, "test", 2);
        TubeWords x = laid("t31t20");
        x.word(0, 1);
        fillRow(x, 0, 1, 0, 0);
        // a TUBE and an ECHO are alike here always, a WEAK and a DULL one, too, and a FLIP one with either
        due(30, "test of 1 0 0", x.test(0, 0), 1);
        due(30, "asked()", x.asked(), 3);
        // behind 1 TICK it is 4 by TUBE, ECHO, SLOW; behind 2 the SLOW one still has 4
        fillRow(x, 0, 1, 0, 0, 1);
        due(30, "test of 1 0 0 1", x.test(0, 0), 2);
        due(30, "asked()", x.asked(), 2);
        fillRow(x, 0, 1, 0, 0, 0, 0, 0, 1);
        due(30, "test of one KIND", x.test(0, 0), 1);
        due(30, "asked()", x.asked(), 1);
        fillRow(x, 0, 0);
        x.tube(0, 1);
        due(30, "test of none", x.test(0, 0), TubeWords.NONE);
        due(30, "asked() behind NONE", x.asked(), 3);
    }

    private static void duelling() {
        due(31, "duel(0) without TUBES", new TubeWords().duel(0), TubeWords.STATE);
        due(31, "duel(4) without TUBES", new TubeWords().duel(4), TubeWords.BAD);
        due(31, "duel(-1) without TUBES", new TubeWords().duel(-1), TubeWords.BAD);
        TubeWords x = laid("t20t30");
        due(31, "duel(0)", x.duel(0), 0);
        due(31, "duel(1)", x.duel(1), 1);
        due(31, "duel(2)", x.duel(2), 0);
        due(31, "duel(3)", x.duel(3), 1);
        x.word(0, 3);
        x.word(1, 1);
        due(31, "duel(1), there is no room", x.duel(1), 3);
        due(31, "duel(2)", x.duel(2), 2);
        due(31, "duel(3)", x.duel(3), 3);
        due(31, "WORD as it was", fact(x, 0, 3), 3);
        TubeWords first = laid("t20w20");
        first.word(0, 1);
        due(31, "duel(2), the first TUBE's is taken", first.duel(2), 0);
        first.word(1, 1);
        first.word(0, 2);
        due(31, "duel(1), the first TUBE gets one", first.duel(1), 2);
        TubeWords weak = laid("w90t30");
        // what is in the WEAK one's SLOT 0 is lost in TICK 0
        due(31, "duel(1), the other TUBE", weak.duel(1), 1);
        due(31, "duel(3)", weak.duel(3), 1);
        TubeWords flip = laid("f90f99");
        // in TICK 0 each sends one in for nothing; giving one takes it then
        due(31, "duel(0) of FLIPS", flip.left(8), flip.duel(0));
        due(31, "duel(1) of FLIPS, nothing is done", flip.duel(1), flip.duel(0));
    }

    private static void chances() {
        due(32, "odds without TUBES", new TubeWords().odds(0, 0, 0), TubeWords.STATE);
        due(32, "odds(64, 0, 0)", new TubeWords().odds(64, 0, 0), TubeWords.BAD);
        due(33, "mid without TUBES", new TubeWords().mid(0, 0), TubeWords.STATE);
        due(33, "mid(21, 0)", new TubeWords().mid(21, 0), TubeWords.BAD);
        TubeWords x = laid("t30t40");
        x.word(0, 3);
        x.word(1, 1);
        int[][] bad = {{-1, 0, 0}, {64, 0, 0}, {0, -1, 0}, {0, 21, 0}, {0, 0, -1}, {0, 0, 13}};
        for (int[] b : bad) {
            due(32, "odds of what is BAD", x.odds(b[0], b[1], b[2]), TubeWords.BAD);
        }
        for (int b = 2; b < 6; b++) {
            due(33, "mid of what is BAD", x.mid(bad[b][1], bad[b][2]), TubeWords.BAD);
        }
        due(36, "upper() before", x.upper(), 0);
        due(37, "lower() before", x.lower(), 1);
        fraction(x, 32, x.odds(0, 5, 7), 1, 1);
        fraction(x, 32, x.odds(3, 5, 6), 1, 4);
        fraction(x, 32, x.odds(2, 5, 6), 1, 2);
        fraction(x, 32, x.odds(1, 5, 6), 3, 4);
        fraction(x, 32, x.odds(1, 20, 4), 8, 9);
        fraction(x, 32, x.odds(3, 20, 5), 49, 144);
        fraction(x, 32, x.odds(63, 20, 5), 0, 1);
        fraction(x, 32, x.odds(3, 0, 0), 1, 1);
        fraction(x, 32, x.odds(1, 0, 12), 0, 1);
        fraction(x, 33, x.mid(0, 0), 3, 1);
        fraction(x, 33, x.mid(20, 12), 0, 1);
        fraction(x, 33, x.mid(20, 6), 3, 2);
        fraction(x, 33, x.mid(20, 5), 7, 4);
        x.odds(64, 0, 0);
        due(36, "upper() behind what is refused", x.upper(), 7);
        due(37, "lower() behind what is refused", x.lower(), 4);
        TubeWords most = laid("t90t90t90t90t90t90t90");
        for (int i = 0; i < 7; i++) {
            most.word(i, 511);
        }
        fraction(most, 32, most.odds(63, 20, 1), 19487171L, 35831808L);
        fraction(most, 33, most.mid(20, 1), 231, 4);
        // a FLIP one makes PULSES of what failed
        TubeWords flip = laid("f20f20");
        fraction(flip, 32, flip.odds(2, 1, 12), 1, 1);
    }

    private static void fraction(TubeWords x, int promise, int got, long upper, long lower) {
        due(promise, "answer", got, 1);
        due(promise, "upper()", x.upper(), upper);
        due(promise, "lower()", x.lower(), lower);
    }

    private static void lots() {
        due(34, "lots without TUBES", new TubeWords().lots(1, 1), TubeWords.STATE);
        due(34, "lots(0, 1) without TUBES", new TubeWords().lots(0, 1), TubeWords.BAD);
        TubeWords x = laid("t30w41s52");
        due(34, "lots(0, 1)", x.lots(0, 1), TubeWords.BAD);
        due(34, "lots(21, 1)", x.lots(21, 1), TubeWords.BAD);
        due(34, "lots(1, 0)", x.lots(1, 0), TubeWords.BAD);
        due(34, "lots(1, -1)", x.lots(1, -1), TubeWords.BAD);
        due(34, "lots(1, highest)", x.lots(1, HIGHEST), TubeWords.BAD);
        for (int seed = 1; seed < 60; seed++) {
            lotsAsDeeds(seed * 36_000_001L % 2147483647L);
        }
        lotsAsDeeds(2147483646L);
        lotsAsDeeds(1);
        due(34, "lots(20, 5)", x.lots(20, 5) >= 0 ? 1 : 0, 1);
        due(34, "lots(20, 6)", x.lots(20, 6) >= 0 ? 1 : 0, 1);
        due(34, "DEEDS", x.count(2), 40);
        due(34, "lots(1, 6)", x.lots(1, 6), TubeWords.FULL);
        x.undo(21);
        due(34, "lots(20, 6) with 21 DEEDS", x.lots(20, 6), TubeWords.FULL);
        due(34, "lots(19, 6) with 21 DEEDS", x.lots(19, 6) >= 0 ? 1 : 0, 1);
    }

    private static void lotsAsDeeds(long seed) {
        TubeWords x = laid("t30w41s52");
        TubeWords y = laid("t30w41s52");
        int[] lengths = {3, 4, 5};
        int got = x.lots(20, (int) seed);
        long z = seed;
        for (int d = 0; d < 20; d++) {
            z = z * 48271L % 2147483647L;
            int i = (int) (z / 8 % 3);
            int lot = (int) (z % 8);
            if (lot == 0) {
                y.swap(i, (i + 1) % 3);
            } else if (lot <= 3) {
                y.set(i, (int) (z / 64 % lengths[i]));
            } else {
                y.tick();
            }
        }
        due(34, "lots(20, " + seed + ") as DEEDS: digest()", x.digest(), y.digest());
        due(34, "lots(20, " + seed + ")", got, y.count(3));
        x.undo(10);
        y.undo(10);
        due(34, "lots undone: digest()", x.digest(), y.digest());
    }

    private static void askedOnes() {
        TubeWords x = laid("t30t30");
        fillRow(x, 0, 5);
        x.at(0, 0);
        due(35, "asked()", x.asked(), 5);
        x.at(0, 1);
        x.lay(1, 0, 9);
        x.mean(2);
        x.tube(9, 0);
        x.later(9, 0);
        x.finds(0, 1, 1);
        x.left(61);
        x.best(0);
        x.best(1);
        x.safest(512);
        x.safest(256);
        x.words(0, 0);
        x.test(0, 0);
        x.hears(0, 1, 1);
        x.count(0);
        x.word(0, 3);
        x.set(0, 0);
        x.swap(0, 1);
        x.tick();
        x.undo(1);
        x.keep(0);
        x.on(0);
        x.odds(0, 0, 0);
        x.mid(0, 0);
        x.lots(1, 1);
        x.duel(1);
        x.kinds(0, 1);
        x.digest();
        x.finding();
        x.findings(1);
        x.mark(0, 1);
        x.copy(0, 0, 0, 0, 1);
        x.fault(0);
        x.store(0);
        due(35, "asked() behind what tells nothing", x.asked(), 5);
    }

    private static void counts() {
        TubeWords x = laid("w30f40e50d60s20t90");
        due(38, "count(-1)", x.count(-1), TubeWords.BAD);
        due(38, "count(11)", x.count(11), TubeWords.BAD);
        x.word(1, 7);
        x.word(5, 257);
        x.tick();
        x.row(0, 0);
        x.row(3, 1);
        x.row(3, 2);
        x.text(2, 0);
        x.keep(0);
        x.keep(2);
        x.keep(2);
        int[] want = {6, 1, 3, 4, 29, 1 + 4 + 8 + 16, 2, 2, 2, 2, 2};
        for (int what = 0; what <= 10; what++) {
            due(38, "count(" + what + ")", x.count(what), want[what]);
        }
    }

    private static void findings() {
        TubeWords x = new TubeWords();
        x.at(0, 0);
        x.tear(1);
        x.fault(0);
        x.on(0);
        x.row(0, -1);
        x.text(0, -1);
        x.row(0, 0);
        x.mean(0);
        x.at(0, 0);
        x.row(9, -1);
        x.at(9, 0);
        due(40, "findings(1)", x.findings(NOTHING), 4);
        due(40, "findings(2)", x.findings(BEYOND), 1);
        due(40, "findings(3)", x.findings(UNLIKE), 0);
        due(40, "findings(4)", x.findings(NOUGHT), 1);
        due(40, "findings(5)", x.findings(SIZE), 2);
        due(40, "findings(0)", x.findings(0), TubeWords.BAD);
        due(40, "findings(6)", x.findings(6), TubeWords.BAD);
        due(39, "finding()", x.finding(), BEYOND);
        due(39, "finding(), again", x.finding(), BEYOND);
    }

    private static void digests() {
        TubeWords x = laid("f31 s20");
        x.word(0, 5);
        x.swap(0, 1);
        x.keep(1);
        x.tick();
        fillRow(x, 2, -7, HIGHEST);
        x.text(1, 1);
        x.put(1, 0, 200);
        long h = 17;
        for (int what = 0; what <= 10; what++) {
            h = 31 * h + x.count(what);
        }
        for (int i = 0; i < 2; i++) {
            for (int what = 0; what <= 6; what++) {
                h = 31 * h + fact(x, i, what);
            }
        }
        long[] rest = {-1, 2, -1, -1, -1, 2, -7, HIGHEST, -1, -1, -1,
            7, 'f', '3', '1', ' ', 's', '2', '0', 1, (byte) 200, -1, -1};
        for (long v : rest) {
            h = 31 * h + v;
        }
        x.at(2, 0);
        due(41, "digest()", x.digest(), h);
        due(41, "asked() behind digest()", x.asked(), -7);
    }

    private static void refusedChangesNothing() {
        TubeWords x = laid("w30f40e50d60s20t90");
        x.word(1, 7);
        x.tick();
        x.keep(1);
        fillRow(x, 0, 1, 2);
        x.at(0, 1);
        x.mid(3, 5);
        long h = x.digest();
        long upper = x.upper();
        x.row(0, 41);
        x.row(0, -1);
        x.lay(0, 2, 9);
        x.copy(0, 0, 0, 1, 2);
        x.text(0, 61);
        x.text(0, -1);
        x.put(0, 99, 1);
        x.store(1);
        x.store(4);
        x.set(0, 3);
        x.swap(0, 0);
        x.word(1, 4096);
        x.undo(3);
        x.undo(-1);
        x.keep(3);
        x.on(0);
        x.hears(0, 21, 0);
        x.hears(0, 0, 0);
        x.hears(6, 1, 0);
        x.lots(21, 1);
        x.odds(0, 21, 0);
        x.mid(0, 13);
        due(41, "digest() behind what is refused", x.digest(), h);
        due(35, "asked() behind what is refused", x.asked(), 2);
        due(36, "upper() behind what is refused", x.upper(), upper);
    }
}
