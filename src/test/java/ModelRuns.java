import java.math.BigInteger;
import java.util.ArrayList;
import java.util.Arrays;
import java.util.List;
import java.util.Random;
import java.util.TreeMap;

/** Long runs of drawn calls, answered by the class and by a plain model of the document that shares no code with it. */
public final class ModelRuns {
    private static final String[] CALLS = {
        "row", "lay", "at", "tear", "copy", "mean", "text", "put", "fault", "store", "tube", "mark", "tick", "set",
        "swap", "word", "undo", "keep", "on", "later", "hears", "finds", "round", "left", "best", "safest", "kinds",
        "words", "test", "duel", "odds", "mid", "lots", "asked", "upper", "lower", "count", "finding", "findings",
        "digest"
    };
    private static final int[] ARGS = {
        2, 3, 2, 1, 5, 1, 2, 3, 1, 1, 2, 2, 0, 2,
        2, 2, 1, 1, 1, 2, 3, 3, 0, 1, 1, 1, 2,
        2, 2, 1, 3, 2, 2, 0, 0, 0, 1, 0, 1,
        0
    };
    private static int wrong = 0;
    private static final int[] taken = new int[CALLS.length];

    public static void main(String[] args) {
        int runs = args.length > 0 ? Integer.parseInt(args[0]) : 400;
        for (int run = 0; run < runs && wrong < 20; run++) {
            oneRun(run);
        }
        for (int c = 0; c < CALLS.length; c++) {
            if (taken[c] == 0) {
                wrong++;
                System.out.println(CALLS[c] + " was never answered but by a refusal");
            }
        }
        System.out.println(runs + " runs, " + wrong + " answers not as due");
        if (wrong != 0) {
            System.exit(1);
        }
    }

    private static void oneRun(int run) {
        Random random = new Random(run);
        TubeWords x = new TubeWords();
        Model m = new Model();
        StringBuilder done = new StringBuilder();
        for (int n = 0; n < 512; n++) {
            if (n % 170 == 0) {
                n += layStore(x, m, random);
                done.append(" store");
            }
            int c = random.nextInt(CALLS.length);
            int[] a = new int[ARGS[c]];
            draw(CALLS[c], a, random, m);
            long got = ofClass(x, CALLS[c], a);
            long want = m.answer(CALLS[c], a);
            if (want >= 0) {
                taken[c]++;
            }
            done.append(' ').append(CALLS[c]).append(Arrays.toString(a));
            if (got != want || x.asked() != m.asked || x.upper() != m.upper.longValue()
                    || x.lower() != m.lower.longValue() || x.finding() != m.finding || x.digest() != m.digest()) {
                wrong++;
                System.out.println("run " + run + ": " + CALLS[c] + Arrays.toString(a) + " answered " + got
                        + ", due is " + want + " (or what it told, or the digest, is not as due), behind" + done);
                return;
            }
        }
    }

    private static int layStore(TubeWords x, Model m, Random random) {
        StringBuilder text = new StringBuilder();
        int tubes = 2 + random.nextInt(6);
        for (int i = 0; i < tubes; i++) {
            if (random.nextBoolean()) {
                text.append(' ');
            }
            text.append("twesfd".charAt(random.nextInt(6)));
            text.append((char) ('2' + random.nextInt(8))).append((char) ('0' + random.nextInt(random.nextBoolean() ? 3 : 10)));
        }
        if (random.nextInt(8) == 0) {
            text.setCharAt(random.nextInt(text.length()), "x0 1t9".charAt(random.nextInt(6)));
        }
        x.text(0, text.length());
        m.answer("text", new int[] {0, text.length()});
        for (int i = 0; i < text.length(); i++) {
            x.put(0, i, text.charAt(i));
            m.answer("put", new int[] {0, i, text.charAt(i)});
        }
        x.store(0);
        m.answer("store", new int[] {0});
        for (int i = 0; i < m.tubes.size(); i++) {
            int v = random.nextInt(1 << m.tubes.get(i).slots.length);
            x.word(i, v);
            m.answer("word", new int[] {i, v});
        }
        return text.length() + 9;
    }

    private static void draw(String call, int[] a, Random random, Model m) {
        int[] most = mostOf(call, random, m);
        for (int i = 0; i < a.length; i++) {
            int limit = i < most.length ? most[i] : 1;
            int odd = random.nextInt(30);
            if (odd == 0) {
                a[i] = limit + 1;
            } else if (odd == 1) {
                a[i] = -1;
            } else if (odd == 2) {
                a[i] = random.nextInt();
            } else {
                a[i] = random.nextInt(limit + 1);
            }
        }
    }

    private static int[] mostOf(String call, Random random, Model m) {
        int tube = Math.max(0, m.tubes.size() - 1);
        switch (call) {
            case "row": return new int[] {5, random.nextBoolean() ? 5 : 40};
            case "lay": return new int[] {5, 4, 1};
            case "at": return new int[] {5, 4};
            case "tear": return new int[] {5};
            case "copy": return new int[] {5, 4, 5, 4, 3};
            case "mean": return new int[] {5};
            case "text": return new int[] {3, 60};
            case "put": return new int[] {3, 30, 255};
            case "fault": return new int[] {3};
            // a STORE laid anew ends what was going on, so seldom
            case "store": return new int[] {random.nextInt(20) == 0 ? 0 : 3};
            case "tube": return new int[] {tube, 6};
            case "mark": return new int[] {tube, 5};
            case "set": return new int[] {tube, 5};
            case "swap": return new int[] {tube, tube};
            case "word": return new int[] {tube, random.nextBoolean() ? 15 : 511};
            case "undo": return new int[] {m.deeds.size()};
            case "keep":
            case "on": return new int[] {2};
            case "later": return new int[] {tube, 60};
            case "hears": return new int[] {tube, 20, 5};
            case "finds": return finds(tube, random);
            case "left": return new int[] {60};
            case "best": return new int[] {40};
            case "safest": return new int[] {random.nextBoolean() ? 15 : 511};
            case "kinds":
            case "words":
            case "test": return new int[] {tube, 5};
            case "duel": return new int[] {random.nextInt(6) == 0 ? 3 : 2};
            case "odds": return new int[] {random.nextBoolean() ? 12 : 63, 20, 12};
            case "mid": return new int[] {20, 12};
            case "lots": return new int[] {20, Integer.MAX_VALUE - 1};
            case "count": return new int[] {10};
            case "findings": return new int[] {5};
            default: return new int[0];
        }
    }

    private static int[] finds(int tube, Random random) {
        int n = 1 + random.nextInt(8);
        return new int[] {tube, (1 << n) - 1, n};
    }

    private static long ofClass(TubeWords x, String call, int[] a) {
        switch (call) {
            case "row": return x.row(a[0], a[1]);
            case "lay": return x.lay(a[0], a[1], a[2]);
            case "at": return x.at(a[0], a[1]);
            case "tear": return x.tear(a[0]);
            case "copy": return x.copy(a[0], a[1], a[2], a[3], a[4]);
            case "mean": return x.mean(a[0]);
            case "text": return x.text(a[0], a[1]);
            case "put": return x.put(a[0], a[1], a[2]);
            case "fault": return x.fault(a[0]);
            case "store": return x.store(a[0]);
            case "tube": return x.tube(a[0], a[1]);
            case "mark": return x.mark(a[0], a[1]);
            case "tick": return x.tick();
            case "set": return x.set(a[0], a[1]);
            case "swap": return x.swap(a[0], a[1]);
            case "word": return x.word(a[0], a[1]);
            case "undo": return x.undo(a[0]);
            case "keep": return x.keep(a[0]);
            case "on": return x.on(a[0]);
            case "later": return x.later(a[0], a[1]);
            case "hears": return x.hears(a[0], a[1], a[2]);
            case "finds": return x.finds(a[0], a[1], a[2]);
            case "round": return x.round();
            case "left": return x.left(a[0]);
            case "best": return x.best(a[0]);
            case "safest": return x.safest(a[0]);
            case "kinds": return x.kinds(a[0], a[1]);
            case "words": return x.words(a[0], a[1]);
            case "test": return x.test(a[0], a[1]);
            case "duel": return x.duel(a[0]);
            case "odds": return x.odds(a[0], a[1], a[2]);
            case "mid": return x.mid(a[0], a[1]);
            case "lots": return x.lots(a[0], a[1]);
            case "asked": return x.asked();
            case "upper": return x.upper();
            case "lower": return x.lower();
            case "count": return x.count(a[0]);
            case "finding": return x.finding();
            case "findings": return x.findings(a[0]);
            default: return x.digest();
        }
    }

    // ---- the model

    private static final class Tube {
        char letter;
        int mark;
        boolean[] slots;
        int way;

        Tube twin() {
            Tube t = new Tube();
            t.letter = letter;
            t.mark = mark;
            t.slots = slots.clone();
            t.way = way;
            return t;
        }

        int value() {
            int v = 0;
            for (int s = slots.length - 1; s >= 0; s--) {
                v = 2 * v + (slots[s] ? 1 : 0);
            }
            return v;
        }

        void give(int v) {
            for (int s = 0; s < slots.length; s++) {
                slots[s] = v / (1 << s) % 2 == 1;
            }
        }

        int many() {
            int n = 0;
            for (boolean s : slots) {
                n += s ? 1 : 0;
            }
            return n;
        }

        boolean moves(int tick) {
            return letter != 's' || tick % 2 == 0;
        }

        boolean sends(char as, int tick, boolean in) {
            boolean lastOne = slots[slots.length - 1];
            boolean divided = tick % (mark + 2) == 0;
            if (as == 'w') {
                return in && !divided;
            }
            if (as == 'f') {
                return in != divided;
            }
            if (as == 'e') {
                return in || divided && lastOne;
            }
            if (as == 'd') {
                return (in || divided && lastOne) && !(tick % 3 == 0 && !lastOne);
            }
            return in;
        }
    }

    private static final class Scene {
        List<Tube> tubes = new ArrayList<>();
        int tick;

        Scene twin() {
            Scene s = new Scene();
            for (Tube t : tubes) {
                s.tubes.add(t.twin());
            }
            s.tick = tick;
            return s;
        }

        boolean comes(int i) {
            return tubes.get(i).moves(tick) && tubes.get(i).slots[0];
        }

        boolean cameTo(int i) {
            boolean in = false;
            for (int j = 0; j < tubes.size(); j++) {
                if (tubes.get(j).way == i) {
                    in |= comes(j);
                }
            }
            return in;
        }

        Scene next() {
            Scene s = twin();
            for (int i = 0; i < tubes.size(); i++) {
                Tube from = tubes.get(i);
                if (from.moves(tick)) {
                    boolean[] to = s.tubes.get(i).slots;
                    for (int k = 0; k + 1 < to.length; k++) {
                        to[k] = from.slots[k + 1];
                    }
                    to[to.length - 1] = from.sends(from.letter, tick, cameTo(i));
                }
            }
            s.tick = tick + 1;
            return s;
        }

        Scene behind(int n) {
            Scene s = this;
            for (int t = 0; t < n; t++) {
                s = s.next();
            }
            return s;
        }

        int many() {
            int n = 0;
            for (Tube t : tubes) {
                n += t.many();
            }
            return n;
        }

        List<Integer> values() {
            List<Integer> v = new ArrayList<>();
            for (Tube t : tubes) {
                v.add(t.value());
            }
            return v;
        }

        /** What comes out in ticks in which it moves, as a text of 0 and 1, in 60 ticks. */
        String heard(int i) {
            StringBuilder heard = new StringBuilder();
            Scene s = this;
            for (int t = 0; t < 60; t++) {
                if (s.tubes.get(i).moves(s.tick)) {
                    heard.append(s.comes(i) ? '1' : '0');
                }
                s = s.next();
            }
            return heard.toString();
        }
    }

    private static final class Model {
        int[][] rows = new int[6][];
        byte[][] texts = new byte[4][];
        Scene scene = new Scene();
        List<Tube> tubes = scene.tubes;
        /** The scene ahead of each deed. */
        List<Scene> deeds = new ArrayList<>();
        Scene[] keptScenes = new Scene[3];
        List<List<Scene>> keptDeeds = new ArrayList<>(Arrays.asList(null, null, null));
        int asked = 0;
        BigInteger upper = BigInteger.ZERO;
        BigInteger lower = BigInteger.ONE;
        int finding = 0;
        int[] findings = new int[6];

        long answer(String call, int[] a) {
            switch (call) {
                case "row": case "lay": case "at": case "tear": case "copy": case "mean": return ofRows(call, a);
                case "text": case "put": case "fault": case "store": return ofTexts(call, a);
                case "tube": return tube(a[0], a[1]);
                case "mark": return mark(a[0], a[1]);
                case "tick": case "set": case "swap": case "word": return deed(call, a);
                case "undo": case "keep": case "on": return ofKept(call, a);
                case "later": case "hears": case "finds": case "round": case "left": return ahead(call, a);
                case "best": return best(a[0]);
                case "safest": return safest(a[0]);
                case "kinds": case "words": case "test": return guess(call, a[0], a[1]);
                case "duel": return duel(a[0]);
                case "odds": return chance(a[0], a[1], a[2], false);
                case "mid": return chance(0, a[0], a[1], true);
                case "lots": return lots(a[0], a[1]);
                case "asked": return asked;
                case "upper": return upper.longValue();
                case "lower": return lower.longValue();
                case "count": return a[0] < 0 || a[0] > 10 ? -1 : count(a[0]);
                case "finding": return finding;
                case "findings": return a[0] < 1 || a[0] > 5 ? -1 : findings[a[0]];
                default: return digest();
            }
        }

        int found(int f) {
            finding = f;
            findings[f]++;
            return -3;
        }

        long ofRows(String call, int[] a) {
            int r = a[0];
            if (r < 0 || r > 5 || call.equals("copy") && (a[2] < 0 || a[2] > 5) || call.equals("row") && a[1] > 40) {
                return -1;
            }
            if (call.equals("row")) {
                if (a[1] < 0) {
                    return found(5);
                }
                rows[r] = new int[a[1]];
                return a[1];
            }
            if (call.equals("copy") && a[4] < 0) {
                return found(5);
            }
            if (rows[r] == null || call.equals("copy") && rows[a[2]] == null) {
                return found(1);
            }
            switch (call) {
                case "copy":
                    if (a[1] < 0 || a[3] < 0 || (long) a[1] + a[4] > rows[r].length
                            || (long) a[3] + a[4] > rows[a[2]].length) {
                        return found(2);
                    }
                    int[] taken = Arrays.copyOfRange(rows[r], a[1], a[1] + a[4]);
                    for (int i = 0; i < a[4]; i++) {
                        rows[a[2]][a[3] + i] = taken[i];
                    }
                    return 1;
                case "tear":
                    rows[r] = null;
                    return 1;
                case "mean":
                    if (rows[r].length == 0) {
                        return found(4);
                    }
                    BigInteger sum = BigInteger.ZERO;
                    for (int v : rows[r]) {
                        sum = sum.add(BigInteger.valueOf(v));
                    }
                    asked = sum.divide(BigInteger.valueOf(rows[r].length)).intValue();
                    return 1;
                default:
                    if (a[1] < 0 || a[1] >= rows[r].length) {
                        return found(2);
                    }
                    asked = rows[r][a[1]];
                    if (call.equals("lay")) {
                        rows[r][a[1]] = a[2];
                    }
                    return 1;
            }
        }

        long ofTexts(String call, int[] a) {
            int t = a[0];
            if (t < 0 || t > 3 || call.equals("text") && a[1] > 60) {
                return -1;
            }
            if (call.equals("text")) {
                if (a[1] < 0) {
                    return found(5);
                }
                texts[t] = new byte[a[1]];
                Arrays.fill(texts[t], (byte) ' ');
                return a[1];
            }
            if (texts[t] == null) {
                return found(1);
            }
            if (call.equals("put")) {
                if (a[1] < 0 || a[1] >= texts[t].length) {
                    return found(2);
                }
                int was = texts[t][a[1]];
                texts[t][a[1]] = (byte) a[2];
                return 1000 + was;
            }
            if (call.equals("fault")) {
                return faultOf(texts[t]);
            }
            return store(texts[t]);
        }

        /** Looks for the longest beginning that a whole TEXT could still begin with. */
        int faultOf(byte[] text) {
            StringBuilder all = new StringBuilder();
            for (byte b : text) {
                all.append(b < 0 ? '?' : (char) b);
            }
            String s = all.toString();
            String tube = "[twesfd][2-9][0-9]";
            if (s.matches(" *(" + tube + " *){2,7}")) {
                return -9;
            }
            for (int n = s.length(); n >= 0; n--) {
                String begin = s.substring(0, n);
                if (begin.matches(" *(" + tube + " *){0,7}") || begin.matches(" *(" + tube + " *){0,6}[twesfd][2-9]?")) {
                    return n;
                }
            }
            return 0;
        }

        long store(byte[] text) {
            if (faultOf(text) != -9) {
                return -4;
            }
            scene = new Scene();
            String s = new String(text, java.nio.charset.StandardCharsets.ISO_8859_1).replace(" ", "");
            for (int i = 0; i < s.length(); i += 3) {
                Tube t = new Tube();
                t.letter = s.charAt(i);
                t.slots = new boolean[s.charAt(i + 1) - '0'];
                t.mark = s.charAt(i + 2) - '0';
                t.way = i / 3;
                scene.tubes.add(t);
            }
            tubes = scene.tubes;
            deeds = new ArrayList<>();
            for (int k = 0; k < 3; k++) {
                keptScenes[k] = null;
                keptDeeds.set(k, null);
            }
            return tubes.size();
        }

        boolean none(int i) {
            return i < 0 || i >= tubes.size();
        }

        int told(int v) {
            asked = v;
            return 1;
        }

        int fact(int i, int what) {
            Tube t = tubes.get(i);
            switch (what) {
                case 0: return "twesfd".indexOf(t.letter);
                case 1: return t.slots.length;
                case 2: return t.mark;
                case 3: return t.value();
                case 4: return t.way;
                case 5: return t.moves(scene.tick) ? 1 : 0;
                default: return t.sends(t.letter, scene.tick, scene.cameTo(i)) ? 1 : 0;
            }
        }

        long tube(int i, int what) {
            return none(i) || what < 0 || what > 6 ? -1 : told(fact(i, what));
        }

        long mark(int i, int kind) {
            if (none(i) || kind < 1 || kind > 5) {
                return -1;
            }
            Tube t = tubes.get(i);
            String[] who = {"", "wf", "ed", "s", "f", "d"};
            if (who[kind].indexOf(t.letter) < 0) {
                return found(3);
            }
            boolean in = scene.cameTo(i);
            int tick = scene.tick;
            switch (kind) {
                case 1:
                    for (int n = 0; ; n++) {
                        if ((tick + n) % (t.mark + 2) == 0) {
                            return n;
                        }
                    }
                case 2: return t.sends(t.letter, tick, true) == t.sends(t.letter, tick, false) ? 1 : 0;
                case 3: return t.slots.length * 2;
                case 4: return t.sends('f', tick, in) != t.sends('w', tick, in) ? 1 : 0;
                default: return t.sends('d', tick, in) != t.sends('e', tick, in) ? 1 : 0;
            }
        }

        void begin() {
            deeds.add(scene.twin());
        }

        long deed(String call, int[] a) {
            switch (call) {
                case "tick":
                    if (tubes.isEmpty() || scene.tick == 99) {
                        return -4;
                    }
                    if (deeds.size() == 40) {
                        return -2;
                    }
                    begin();
                    become(scene.next());
                    return scene.many();
                case "set":
                    if (none(a[0]) || a[1] < 0 || a[1] >= tubes.get(a[0]).slots.length) {
                        return -1;
                    }
                    if (deeds.size() == 40) {
                        return -2;
                    }
                    begin();
                    tubes.get(a[0]).slots[a[1]] = !tubes.get(a[0]).slots[a[1]];
                    return tubes.get(a[0]).value();
                case "swap":
                    if (none(a[0]) || none(a[1]) || a[0] == a[1]) {
                        return -1;
                    }
                    if (deeds.size() == 40) {
                        return -2;
                    }
                    begin();
                    swapped(scene, a[0], a[1]);
                    return tubes.get(a[0]).way;
                default:
                    if (none(a[0]) || a[1] < 0 || a[1] >= 1 << tubes.get(a[0]).slots.length) {
                        return -1;
                    }
                    int had = tubes.get(a[0]).value();
                    if (had == a[1]) {
                        return -4;
                    }
                    if (deeds.size() == 40) {
                        return -2;
                    }
                    begin();
                    tubes.get(a[0]).give(a[1]);
                    return had;
            }
        }

        static void swapped(Scene s, int i, int j) {
            int w = s.tubes.get(i).way;
            s.tubes.get(i).way = s.tubes.get(j).way;
            s.tubes.get(j).way = w;
        }

        void become(Scene s) {
            scene = s;
            tubes = scene.tubes;
        }

        long ofKept(String call, int[] a) {
            if (call.equals("undo")) {
                if (a[0] < 0 || a[0] > deeds.size()) {
                    return -1;
                }
                int n = deeds.size() - a[0];
                if (n > 0) {
                    become(deeds.get(a[0]));
                    deeds = new ArrayList<>(deeds.subList(0, a[0]));
                }
                return n;
            }
            if (a[0] < 0 || a[0] > 2) {
                return -1;
            }
            if (call.equals("keep")) {
                if (tubes.isEmpty()) {
                    return -4;
                }
                keptScenes[a[0]] = scene.twin();
                keptDeeds.set(a[0], twins(deeds));
                return deeds.size();
            }
            if (keptScenes[a[0]] == null) {
                return found(1);
            }
            become(keptScenes[a[0]].twin());
            deeds = twins(keptDeeds.get(a[0]));
            return deeds.size();
        }

        static List<Scene> twins(List<Scene> scenes) {
            List<Scene> twins = new ArrayList<>();
            for (Scene s : scenes) {
                twins.add(s.twin());
            }
            return twins;
        }

        long ahead(String call, int[] a) {
            switch (call) {
                case "later":
                    if (none(a[0]) || a[1] < 0 || a[1] > 60) {
                        return -1;
                    }
                    asked = scene.behind(a[1]).many();
                    return scene.behind(a[1]).tubes.get(a[0]).value();
                case "hears":
                    if (none(a[0]) || a[1] < 1 || a[1] > 20 || a[2] < 0 || a[2] > 5) {
                        return -1;
                    }
                    rows[a[2]] = new int[a[1]];
                    int many = 0;
                    for (int t = 0; t < a[1]; t++) {
                        Scene s = scene.behind(t);
                        boolean moves = s.tubes.get(a[0]).moves(s.tick);
                        rows[a[2]][t] = !moves ? -1 : s.comes(a[0]) ? 1 : 0;
                        many += s.comes(a[0]) ? 1 : 0;
                    }
                    return many;
                case "finds":
                    if (none(a[0]) || a[2] < 1 || a[2] > 8 || a[1] < 0 || a[1] >= 1 << a[2]) {
                        return -1;
                    }
                    return finds(a[0], a[1], a[2]);
                case "round":
                    return tubes.isEmpty() ? -4 : round();
                default:
                    if (a[0] < 0 || a[0] > 60) {
                        return -1;
                    }
                    if (tubes.isEmpty()) {
                        return -4;
                    }
                    Scene s = scene.behind(a[0]);
                    asked = 0;
                    for (Tube t : s.tubes) {
                        asked += t.many() == 0 ? 1 : 0;
                    }
                    return s.many();
            }
        }

        long finds(int i, int v, int n) {
            StringBuilder pattern = new StringBuilder();
            for (int b = 0; b < n; b++) {
                pattern.append(v / (1 << b) % 2);
            }
            StringBuilder out = new StringBuilder();
            Scene s = scene;
            for (int t = 1; t <= 60; t++) {
                if (s.tubes.get(i).moves(s.tick)) {
                    out.append(s.comes(i) ? '1' : '0');
                }
                if (out.indexOf(pattern.toString()) >= 0) {
                    asked = out.toString().replace("0", "").length();
                    return t;
                }
                s = s.next();
            }
            return -9;
        }

        long round() {
            int fewest = scene.many();
            Scene s = scene;
            for (int t = 1; t <= 120; t++) {
                s = s.next();
                fewest = Math.min(fewest, s.many());
                if (s.values().equals(scene.values())) {
                    asked = fewest;
                    return t;
                }
            }
            return -9;
        }

        long best(int n) {
            if (n < 1 || n > 40) {
                return -1;
            }
            if (tubes.isEmpty()) {
                return -4;
            }
            TreeMap<Integer, Integer> by = new TreeMap<>();
            int most = scene.behind(n).many();
            int asItIs = most;
            for (int i = 0; i < tubes.size(); i++) {
                for (int j = i + 1; j < tubes.size(); j++) {
                    Scene s = scene.twin();
                    swapped(s, i, j);
                    by.put(10 * i + j, s.behind(n).many());
                    most = Math.max(most, s.behind(n).many());
                }
            }
            if (most == asItIs) {
                return -9;
            }
            asked = most;
            for (int pair : by.keySet()) {
                if (by.get(pair) == most) {
                    return pair;
                }
            }
            throw new IllegalStateException();
        }

        long safest(int v) {
            if (v < 0 || v > 511) {
                return -1;
            }
            if (tubes.isEmpty()) {
                return -4;
            }
            for (int n = 1; n <= 60; n++) {
                for (int i = 0; i < tubes.size(); i++) {
                    if (v >= 1 << tubes.get(i).slots.length) {
                        continue;
                    }
                    Scene s = scene.twin();
                    s.tubes.get(i).give(v);
                    if (s.behind(n).tubes.get(i).value() == v) {
                        asked = n;
                        return i;
                    }
                }
            }
            return -9;
        }

        long guess(String call, int i, int r) {
            if (none(i) || r < 0 || r > 5) {
                return -1;
            }
            if (rows[r] == null) {
                return found(1);
            }
            if (rows[r].length == 0 || rows[r].length > 20) {
                return found(5);
            }
            StringBuilder begins = new StringBuilder();
            for (int v : rows[r]) {
                if (v != 0 && v != 1) {
                    return found(3);
                }
                begins.append(v);
            }
            if (call.equals("words")) {
                return words(i, begins.toString());
            }
            List<Scene> fitting = new ArrayList<>();
            int set = 0;
            for (int kind = 0; kind < 6; kind++) {
                Scene s = scene.twin();
                s.tubes.get(i).letter = "twesfd".charAt(kind);
                if (s.heard(i).startsWith(begins.toString())) {
                    set += 1 << kind;
                    fitting.add(s);
                }
            }
            return call.equals("kinds") ? set : test(i, fitting);
        }

        long words(int i, String begins) {
            List<Integer> fitting = new ArrayList<>();
            for (int v = 0; v < 1 << tubes.get(i).slots.length; v++) {
                Scene s = scene.twin();
                s.tubes.get(i).give(v);
                if (s.heard(i).startsWith(begins)) {
                    fitting.add(v);
                }
            }
            if (fitting.isEmpty()) {
                return -9;
            }
            asked = fitting.get(0);
            return fitting.size();
        }

        long test(int i, List<Scene> fitting) {
            if (fitting.isEmpty()) {
                return -9;
            }
            int least = 99;
            int behind = 0;
            for (int n = 1; n <= 20; n++) {
                TreeMap<Integer, Integer> parts = new TreeMap<>();
                for (Scene s : fitting) {
                    parts.merge(s.behind(n).tubes.get(i).value(), 1, Integer::sum);
                }
                int greatest = java.util.Collections.max(parts.values());
                if (greatest < least) {
                    least = greatest;
                    behind = n;
                }
            }
            asked = least;
            return behind;
        }

        long duel(int n) {
            if (n < 0 || n > 3) {
                return -1;
            }
            return tubes.isEmpty() ? -4 : turns(scene, 0, n);
        }

        int turns(Scene s, int done, int n) {
            if (done == n) {
                return s.behind(8).many();
            }
            boolean first = done % 2 == 0;
            int value = turns(s, done + 1, n);
            for (int i = 0; i < s.tubes.size(); i++) {
                Scene t = s.twin();
                t.tubes.get(i).slots[0] = first;
                int v = turns(t, done + 1, n);
                value = first ? Math.max(value, v) : Math.min(value, v);
            }
            return value;
        }

        long chance(int k, int n, int p, boolean mean) {
            if (k < 0 || k > 63 || n < 0 || n > 20 || p < 0 || p > 12) {
                return -1;
            }
            if (tubes.isEmpty()) {
                return -4;
            }
            BigInteger sum = fails(scene, 0, BigInteger.ONE, new int[] {k, n, p, mean ? 1 : 0});
            BigInteger whole = BigInteger.valueOf(12).pow(tubes.size());
            BigInteger common = sum.gcd(whole);
            upper = sum.divide(common);
            lower = whole.divide(common);
            return 1;
        }

        BigInteger fails(Scene s, int i, BigInteger weight, int[] a) {
            if (i == s.tubes.size()) {
                int many = s.behind(a[1]).many();
                return weight.multiply(BigInteger.valueOf(a[3] == 1 ? many : many >= a[0] ? 1 : 0));
            }
            Scene failed = s.twin();
            failed.tubes.get(i).give(0);
            return fails(failed, i + 1, weight.multiply(BigInteger.valueOf(a[2])), a)
                    .add(fails(s, i + 1, weight.multiply(BigInteger.valueOf(12 - a[2])), a));
        }

        long lots(int n, int seed) {
            if (n < 1 || n > 20 || seed < 1 || seed == Integer.MAX_VALUE) {
                return -1;
            }
            if (tubes.isEmpty()) {
                return -4;
            }
            if (deeds.size() + n > 40) {
                return -2;
            }
            BigInteger z = BigInteger.valueOf(seed);
            for (int d = 0; d < n; d++) {
                z = z.multiply(BigInteger.valueOf(48271)).mod(BigInteger.valueOf(2147483647));
                int it = z.intValueExact();
                int i = it / 8 % tubes.size();
                if (it % 8 == 0) {
                    answer("swap", new int[] {i, i + 1 == tubes.size() ? 0 : i + 1});
                } else if (it % 8 < 4) {
                    answer("set", new int[] {i, it / 64 % tubes.get(i).slots.length});
                } else {
                    answer("tick", new int[0]);
                }
            }
            return scene.many();
        }

        int count(int what) {
            int n = 0;
            switch (what) {
                case 0: return tubes.size();
                case 1: return scene.tick;
                case 2: return deeds.size();
                case 3: return scene.many();
                case 4:
                    for (Tube t : tubes) {
                        n += t.slots.length;
                    }
                    return n;
                case 5:
                    for (int i = 0; i < tubes.size(); i++) {
                        n += tubes.get(i).many() == 0 ? 1 << i : 0;
                    }
                    return n;
                case 6:
                    for (int[] r : rows) {
                        n += r == null ? 0 : 1;
                    }
                    return n;
                case 7:
                    for (byte[] t : texts) {
                        n += t == null ? 0 : 1;
                    }
                    return n;
                case 8:
                    for (Scene s : keptScenes) {
                        n += s == null ? 0 : 1;
                    }
                    return n;
                default:
                    for (Tube t : tubes) {
                        n += (what == 9 ? "wf" : "ed").indexOf(t.letter) >= 0 ? 1 : 0;
                    }
                    return n;
            }
        }

        long digest() {
            List<Integer> all = new ArrayList<>();
            for (int what = 0; what <= 10; what++) {
                all.add(count(what));
            }
            for (int i = 0; i < tubes.size(); i++) {
                for (int what = 0; what <= 6; what++) {
                    all.add(fact(i, what));
                }
            }
            for (int k = 0; k < 3; k++) {
                all.add(keptScenes[k] == null ? -1 : keptDeeds.get(k).size());
            }
            for (int[] r : rows) {
                all.add(r == null ? -1 : r.length);
                for (int i = 0; r != null && i < r.length; i++) {
                    all.add(r[i]);
                }
            }
            for (byte[] t : texts) {
                all.add(t == null ? -1 : t.length);
                for (int i = 0; t != null && i < t.length; i++) {
                    all.add((int) t[i]);
                }
            }
            long h = 17;
            for (int v : all) {
                h = 31 * h + v;
            }
            return h;
        }
    }
}
