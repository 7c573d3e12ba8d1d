/** "What is SENT in": each KIND, MARK, TICK that 40 DEEDS leave room for, with and without a last one, for both. */
public final class EdgesOfSending {
    private static final String LETTERS = "twesfd";
    /** The WAYS, two WORDS and the TICK that is looked at are DEEDS, too. */
    private static final int TICKS = 36;

    public static void main(String[] args) {
        for (int kind = 0; kind < 6; kind++) {
            for (int mark = 0; mark <= 9; mark++) {
                int of = kind;
                int marked = mark;
                Edge.test("1: what is SENT in by KIND " + kind + " of MARK " + mark, () -> all(of, marked));
            }
        }
        Edge.test("13: behind how many TICKS, in each TICK, by each MARK", EdgesOfSending::behindHowMany);
        Edge.end();
    }

    private static void all(int kind, int mark) {
        for (int tick = 0; tick <= TICKS; tick++) {
            for (int last = 0; last <= 1; last++) {
                for (int in = 0; in <= 1; in++) {
                    one(kind, mark, tick, last, in);
                }
            }
        }
    }

    /** TUBE 0 is the one that is looked at, of three SLOTS; what comes to it is TUBE 1's. */
    private static void one(int kind, int mark, int tick, int last, int in) {
        int word = 2 + 4 * last;
        Played x = Scene.store(LETTERS.charAt(kind) + "3" + mark + "t20").then("swap", 0, 1).times(tick, "tick")
            .tried("word", 0, word).tried("word", 1, 2 + in).play();
        String where = "TICK " + tick + ", last SLOT " + last + ", for " + in + ": ";
        boolean moves = kind != 3 || isOneOf(tick, 2);
        int sent = sent(kind, mark, tick, last, in);
        Edge.due(where + "tube(0, 5)", x.told("tube", 0, 5), moves ? 1 : 0);
        Edge.due(where + "tube(0, 6)", x.told("tube", 0, 6), sent);
        looksAlike(x, where, kind, mark, tick, last, in);
        Edge.due(where + "later(0, 1)", x.ask("later", 0, 1), moves ? word / 2 + 4 * sent : word);
        x.ask("tick");
        Edge.due(where + "the WORD behind it", x.told("tube", 0, 3), moves ? word / 2 + 4 * sent : word);
        Edge.due(where + "the WORD that came from it", x.told("tube", 1, 3), 1);
    }

    private static void looksAlike(Played x, String where, int kind, int mark, int tick, int last, int in) {
        if (kind == 2 || kind == 5) {
            boolean alike = sent(kind, mark, tick, last, 0) == sent(kind, mark, tick, last, 1);
            Edge.due(where + "mark(0, 2)", x.ask("mark", 0, 2), alike ? 1 : 0);
        }
        if (kind == 4) {
            boolean otherwise = sent(4, mark, tick, last, in) != sent(1, mark, tick, last, in);
            Edge.due(where + "mark(0, 4)", x.ask("mark", 0, 4), otherwise ? 1 : 0);
        }
        if (kind == 5) {
            boolean otherwise = sent(5, mark, tick, last, in) != sent(2, mark, tick, last, in);
            Edge.due(where + "mark(0, 5)", x.ask("mark", 0, 5), otherwise ? 1 : 0);
        }
    }

    /** The document's sentences, one by one. */
    private static int sent(int kind, int mark, int tick, int last, int in) {
        boolean struck = isOneOf(tick, mark + 2);
        if (kind == 1 && struck) {
            return 0;
        }
        if ((kind == 2 || kind == 5) && struck && last == 1) {
            return 1;
        }
        if (kind == 4 && struck) {
            return in == 0 ? 1 : 0;
        }
        if (kind == 5 && isOneOf(tick, 3) && last == 0) {
            return 0;
        }
        return in;
    }

    /** Whether a number divides a TICK, by going through those that it does. */
    private static boolean isOneOf(int tick, int every) {
        int divided = 0;
        while (divided < tick) {
            divided += every;
        }
        return divided == tick;
    }

    private static void behindHowMany() {
        for (int mark = 0; mark <= 9; mark++) {
            Scene scene = Scene.store("w2" + mark + "f3" + mark);
            for (int tick = 0; tick <= 40; tick++) {
                int behind = 0;
                while (!isOneOf(tick + behind, mark + 2)) {
                    behind++;
                }
                Played x = scene.times(tick, "tick").play();
                Edge.due("MARK " + mark + ", TICK " + tick + ": mark(0, 1)", x.ask("mark", 0, 1), behind);
                Edge.due("MARK " + mark + ", TICK " + tick + ": mark(1, 1)", x.ask("mark", 1, 1), behind);
            }
        }
    }
}
