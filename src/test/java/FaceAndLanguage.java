import java.lang.reflect.Constructor;
import java.lang.reflect.Field;
import java.lang.reflect.Method;
import java.lang.reflect.Modifier;
import java.nio.charset.StandardCharsets;
import java.nio.file.Files;
import java.nio.file.Path;
import java.util.Arrays;
import java.util.Random;
import java.util.TreeMap;
import java.util.TreeSet;
import java.util.regex.Matcher;
import java.util.regex.Pattern;

/** The face is the document's and no more, the source keeps to the language's rules, and no call throws. */
public final class FaceAndLanguage {
    private static final String FACE =
        "int row 2, int lay 3, int at 2, int tear 1, int copy 5, int mean 1, int text 2, int put 3, int fault 1, "
        + "int store 1, int tube 2, int mark 2, int tick 0, int set 2, int swap 2, int word 2, int undo 1, int keep 1, "
        + "int on 1, int later 2, int hears 3, int finds 3, int round 0, int left 1, int best 1, int safest 1, "
        + "int kinds 2, int words 2, int test 2, int duel 1, int odds 3, int mid 2, int lots 2, int asked 0, "
        + "long upper 0, long lower 0, int count 1, int finding 0, int findings 1, long digest 0";
    private static final String[] FORBIDDEN = {
        "throw", "throws", "try", "catch", "finally", "synchronized", "assert", "protected", "import", "package",
        "->", "::", "NaN", "System.out", "Exact", "hashCode", "toString", "@Override", "Object", "Thread", "Random"
    };
    private static int wrong = 0;

    public static void main(String[] args) throws Exception {
        constants();
        methods();
        source();
        neverThrows();
        System.out.println("face and language: " + wrong + " not as due");
        if (wrong != 0) {
            System.exit(1);
        }
    }

    private static void say(String what) {
        wrong++;
        System.out.println(what);
    }

    private static void constants() throws Exception {
        TreeMap<String, Integer> due = new TreeMap<>();
        due.put("BAD", -1);
        due.put("FULL", -2);
        due.put("FINDING", -3);
        due.put("STATE", -4);
        due.put("SPENT", -6);
        due.put("NONE", -9);
        for (Field f : TubeWords.class.getDeclaredFields()) {
            int m = f.getModifiers();
            if (!Modifier.isPrivate(m)) {
                if (!Modifier.isPublic(m) || !Modifier.isStatic(m) || !Modifier.isFinal(m) || f.getType() != int.class
                        || !due.containsKey(f.getName()) || f.getInt(null) != due.remove(f.getName())) {
                    say("a constant that is not the document's: " + f);
                }
            } else if (Modifier.isStatic(m) && !Modifier.isFinal(m)) {
                say("static state: " + f);
            }
        }
        if (!due.isEmpty()) {
            say("missing constants: " + due);
        }
    }

    private static void methods() {
        if (!Modifier.isFinal(TubeWords.class.getModifiers()) || !Modifier.isPublic(TubeWords.class.getModifiers())) {
            say("the class is not public and final");
        }
        Constructor<?>[] made = TubeWords.class.getDeclaredConstructors();
        if (made.length != 1 || !Modifier.isPublic(made[0].getModifiers()) || made[0].getParameterCount() != 0) {
            say("the constructor is not the document's");
        }
        TreeSet<String> due = new TreeSet<>(Arrays.asList(FACE.split(", ")));
        TreeSet<String> names = new TreeSet<>();
        for (String d : due) {
            names.add(d.split(" ")[1]);
        }
        for (Method m : TubeWords.class.getDeclaredMethods()) {
            if (!Modifier.isPrivate(m.getModifiers())) {
                String form = m.getReturnType() + " " + m.getName() + " " + m.getParameterCount();
                if (!due.remove(form) || Modifier.isStatic(m.getModifiers())) {
                    say("a method that is not the document's: " + m);
                }
            } else if (names.contains(m.getName())) {
                say("a private method with a public one's name: " + m);
            }
            if (m.getParameterCount() > 7) {
                say("more than seven parameters: " + m);
            }
        }
        if (!due.isEmpty()) {
            say("missing methods: " + due);
        }
        for (Class<?> c : TubeWords.class.getDeclaredClasses()) {
            if (!Modifier.isStatic(c.getModifiers()) || Modifier.isPublic(c.getModifiers())) {
                say("a class inside that is not static, or public: " + c);
            }
            for (Method m : c.getDeclaredMethods()) {
                if (names.contains(m.getName())) {
                    say("a method inside with a public one's name: " + m);
                }
            }
        }
    }

    private static void source() throws Exception {
        String all = Files.readString(Path.of("src/main/java/TubeWords.java"), StandardCharsets.ISO_8859_1);
        for (char c : all.toCharArray()) {
            if (c > 126 || c < 32 && c != '\n') {
                say("a sign that is none of plain ASCII: " + (int) c);
            }
        }
        String code = all.replaceAll("(?s)/\\*.*?\\*/", "").replaceAll("//[^\n]*", "");
        for (String word : FORBIDDEN) {
            String form = Character.isLetter(word.charAt(0)) ? "\\b" + Pattern.quote(word) + "\\b" : Pattern.quote(word);
            if (Pattern.compile(form).matcher(code).find()) {
                say("the source has " + word);
            }
        }
        Matcher library = Pattern.compile("\\b([A-Z]\\w*)\\.(\\w+)").matcher(code);
        TreeSet<String> fine = new TreeSet<>(Arrays.asList("Math.min", "Math.max", "Integer.bitCount", "System.arraycopy"));
        while (library.find()) {
            String used = library.group();
            if (!fine.contains(used) && !library.group(1).equals("LETTERS")) {
                say("a call of the library that is not known to be fine: " + used);
            }
        }
        if (Pattern.compile("\\b(while|do)\\b").matcher(code).find()) {
            say("a loop without a counter in its head");
        }
        methodLengths(code);
        depthOfCalls(code);
        fieldsOfClasses();
    }

    /** Rule 11: calls that are no recursion go at most eight deep, the library's own call counted, too. */
    private static void depthOfCalls(String code) {
        TreeMap<String, String> bodies = new TreeMap<>();
        Matcher m = Pattern.compile("(?m)^( {4,8})(?:public|private)[^=;\n]*? (\\w+)\\([^)\n]*\\) \\{\n((?s).*?)^\\1}").matcher(code);
        while (m.find()) {
            if (bodies.put(m.group(2), m.group(3)) != null) {
                say("two methods of one name, which the look at the depth takes for one: " + m.group(2));
            }
        }
        if (bodies.size() < 60) {
            say("the look at the depth found " + bodies.size() + " methods only");
        }
        for (String name : bodies.keySet()) {
            int deep = depthFrom(name, bodies, new TreeSet<>());
            if (deep > 8) {
                say("calls from " + name + " go " + deep + " deep");
            }
        }
    }

    private static int depthFrom(String name, TreeMap<String, String> bodies, TreeSet<String> open) {
        open.add(name);
        int most = 0;
        Matcher call = Pattern.compile("\\b(\\w+)\\(").matcher(bodies.get(name));
        while (call.find()) {
            String called = call.group(1);
            if (bodies.containsKey(called) && !open.contains(called)) {
                most = Math.max(most, depthFrom(called, bodies, open));
            } else if (called.equals("min") || called.equals("max") || called.equals("bitCount")
                    || called.equals("arraycopy")) {
                most = Math.max(most, 1);
            }
        }
        open.remove(name);
        return most + 1;
    }

    /** Rules 5 and 11: what static fields may be, how many others a class may have, how many classes there may be. */
    private static void fieldsOfClasses() {
        Class<?>[] inside = TubeWords.class.getDeclaredClasses();
        if (inside.length > 11) {
            say("more than twelve classes");
        }
        fieldsOf(TubeWords.class);
        for (Class<?> c : inside) {
            fieldsOf(c);
        }
    }

    private static void fieldsOf(Class<?> c) {
        TreeSet<String> fine = new TreeSet<>(Arrays.asList("int", "long", "boolean", "char", "class java.lang.String",
            "class [I", "class [J", "class [C", "class [B"));
        int own = 0;
        for (Field f : c.getDeclaredFields()) {
            if (!Modifier.isStatic(f.getModifiers())) {
                own++;
            } else if (!Modifier.isFinal(f.getModifiers()) || !fine.contains(f.getType().toString())) {
                say("a static field that rule 5 has not: " + f);
            }
        }
        if (own > 20) {
            say("more than twenty fields: " + c);
        }
    }

    private static void methodLengths(String code) {
        int start = 0;
        int line = 0;
        for (String text : code.split("\n")) {
            line++;
            if (text.matches(" {4,8}(private|public) .*\\) \\{")) {
                start = line;
            } else if (text.matches(" {4,8}}") && start > 0) {
                if (line - start > 60) {
                    say("a method of more than sixty lines at " + start);
                }
                start = 0;
            }
        }
    }

    /** Any numbers, in any state, and far beyond the 512th call. */
    private static void neverThrows() throws Exception {
        Method[] all = TubeWords.class.getDeclaredMethods();
        Arrays.sort(all, (a, b) -> a.toString().compareTo(b.toString()));
        int[] edges = {Integer.MIN_VALUE, Integer.MIN_VALUE + 1, -61, -2, -1, 0, 1, 2, 3, 5, 6, 7, 8, 9, 20, 21, 39, 40,
            41, 59, 60, 61, 63, 64, 99, 511, 512, 1 << 16, 1 << 30, Integer.MAX_VALUE - 1, Integer.MAX_VALUE};
        for (int run = 0; run < 60; run++) {
            Random random = new Random(run);
            TubeWords x = new TubeWords();
            if (run % 3 != 0) {
                lay(x, run % 3 == 1 ? "t20w31e42s53f64d75t96" : "f29 d20");
            }
            for (int call = 0; call < 2000; call++) {
                Method m = all[random.nextInt(all.length)];
                if (!Modifier.isPublic(m.getModifiers())) {
                    continue;
                }
                Object[] a = new Object[m.getParameterCount()];
                for (int i = 0; i < a.length; i++) {
                    a[i] = random.nextInt(4) == 0 ? edges[random.nextInt(edges.length)] : random.nextInt(8);
                }
                try {
                    m.invoke(x, a);
                } catch (java.lang.reflect.InvocationTargetException e) {
                    say(m.getName() + Arrays.toString(a) + " threw " + e.getCause());
                }
            }
        }
    }

    private static void lay(TubeWords x, String text) {
        x.text(0, text.length());
        for (int i = 0; i < text.length(); i++) {
            x.put(0, i, text.charAt(i));
        }
        x.store(0);
    }
}
