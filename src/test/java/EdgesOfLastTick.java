import java.lang.reflect.Field;

/**
 * TICK 99 as the last one. 40 DEEDS can't bring a STORE there, so these tests turn its TICK on from within: the fields
 * "now" and "time" of the class are all that they know of it.
 */
public final class EdgesOfLastTick {
    public static void main(String[] args) {
        tick();
        lots();
        aside();
        Edge.end();
    }

    private static TubeWords at(int time, int deeds) {
        TubeWords x = new TubeWords();
        String text = "t30t20";
        x.text(0, text.length());
        for (int i = 0; i < text.length(); i++) {
            x.put(0, i, text.charAt(i));
        }
        x.store(0);
        x.word(0, 1);
        for (int d = 1; d < deeds; d++) {
            x.set(1, 0);
        }
        try {
            Field now = TubeWords.class.getDeclaredField("now");
            now.setAccessible(true);
            Object store = now.get(x);
            Field ticks = store.getClass().getDeclaredField("time");
            ticks.setAccessible(true);
            ticks.setInt(store, time);
        } catch (ReflectiveOperationException e) {
            throw new IllegalStateException("the TICK can't be turned on from within: " + e);
        }
        return x;
    }

    private static void tick() {
        Edge.test("14: from TICK 98 on one more goes by, to 99", () -> {
            TubeWords x = at(98, 1);
            Edge.due("tick()", x.tick(), 1);
            Edge.due("count(1)", x.count(1), 99);
            Edge.due("count(2)", x.count(2), 2);
        });
        Edge.test("14: STATE: it is TICK 99; nothing changes", () -> {
            TubeWords x = at(99, 1);
            long h = x.digest();
            Edge.due("tick()", x.tick(), Edge.STATE);
            Edge.due("digest()", x.digest(), h);
            Edge.due("finding()", x.finding(), 0);
        });
        Edge.test("14: STATE ahead of FULL: TICK 99 with 40 DEEDS", () -> {
            TubeWords x = at(99, 40);
            Edge.due("count(2)", x.count(2), 40);
            Edge.due("tick()", x.tick(), Edge.STATE);
            Edge.due("tick() in TICK 98", at(98, 40).tick(), Edge.FULL);
        });
        Edge.test("15, 16, 17: other DEEDS are done in TICK 99, too", () -> {
            TubeWords x = at(99, 1);
            Edge.due("set(0, 2)", x.set(0, 2), 5);
            Edge.due("swap(0, 1)", x.swap(0, 1), 1);
            Edge.due("word(0, 7)", x.word(0, 7), 5);
        });
    }

    private static void lots() {
        Edge.test("34: a TICK, if it is not TICK 99", () -> {
            for (int rest = 4; rest <= 7; rest++) {
                TubeWords x = at(98, 1);
                Edge.due("lots", x.lots(1, Lots.seedFor(rest)), 1);
                Edge.due("count(1)", x.count(1), 99);
                Edge.due("WORD", x.tube(0, 3) == 1 ? x.asked() : -1, 4);
            }
        });
        Edge.test("34: else a DEED of nothing: it counts, and nothing else changes", () -> {
            for (int rest = 4; rest <= 7; rest++) {
                TubeWords x = at(99, 1);
                Edge.due("lots", x.lots(1, Lots.seedFor(rest)), 1);
                Edge.due("count(1)", x.count(1), 99);
                Edge.due("count(2)", x.count(2), 2);
                Edge.due("WORD", x.tube(0, 3) == 1 ? x.asked() : -1, 1);
                Edge.due("undo(1)", x.undo(1), 1);
            }
        });
        Edge.test("34: a DEED of nothing is done again as nothing", () -> {
            TubeWords x = at(99, 1);
            x.lots(1, Lots.seedFor(4));
            x.keep(0);
            Edge.due("on(0)", x.on(0), 2);
            // done again from TICK 0 on: the WORD alone
            Edge.due("count(1)", x.count(1), 0);
            Edge.due("count(3)", x.count(3), 1);
        });
        Edge.test("34: other DEEDS of lots are done in TICK 99, too", () -> {
            TubeWords x = at(99, 1);
            Edge.due("lots of a SLOT", x.lots(1, Lots.seedFor(1)), 0);
            Edge.due("lots of WAYS", x.lots(1, Lots.seedFor(8)), 0);
            Edge.due("WAY", x.tube(0, 4) == 1 ? x.asked() : -1, 1);
        });
    }

    private static void aside() {
        Edge.test("21 to 27: what comes is told in TICK 99, too", () -> {
            TubeWords x = at(99, 1);
            Edge.due("later(0, 1)", x.later(0, 1), 4);
            Edge.due("later(0, 60)", x.later(0, 60), 1);
            Edge.due("hears(0, 3, 0)", x.hears(0, 3, 0), 1);
            Edge.due("finds(0, 2, 2)", x.finds(0, 2, 2), 4);
            Edge.due("round()", x.round(), 3);
            Edge.due("left(60)", x.left(60), 1);
            Edge.due("safest(1)", x.safest(1), 1);
            Edge.due("count(1)", x.count(1), 99);
        });
    }
}
