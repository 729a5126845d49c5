import java.lang.reflect.Constructor;
import java.lang.reflect.Field;
import java.lang.reflect.Method;
import java.lang.reflect.Modifier;
import java.nio.file.Files;
import java.nio.file.Path;
import java.util.ArrayList;
import java.util.List;
import java.util.Map;
import java.util.TreeMap;
import java.util.TreeSet;
import java.util.regex.Matcher;
import java.util.regex.Pattern;

/** What LANGUAGE.md asks of the one file, as far as a test can see it. */
public final class LanguageTest {
    private static final String FACE = "join(int,int,int,int)int filter(int,int,int,int)int operator(int,int)int relation(int,int)int tuple(int,int,int)int"
            + " terms(int,int)int feed(int,int,int,int,int)int end(int)int row()int strays()int law()int orders()int fault()int stopped()int force(int)int"
            + " come(int,int,int)int strike(int)int window(int,int)int index(int,int)int undo()int result(int,int)int shut(int)int deepest()int"
            + " brings(int,int,int,int)int cheapest(int,int,int,int)int regret(int,int,int)int bestIndex(int,int,int,int)int seen(int,int)int forget()int"
            + " canBe(int)int ask(int)int few(int,int)long compare(int,int,int,int)int days(int,int)int drawn(int,int)int image(int)int back(int)int"
            + " count(int)int status()int";
    private static int wrong = 0;

    public static void main(String[] args) throws Exception {
        face();
        classesInside();
        words();
        room();
        System.out.println(wrong == 0 ? "the class keeps to the language" : wrong + " rules are not kept");
        if (wrong != 0) {
            System.exit(1);
        }
    }

    private static void ask(boolean kept, String rule) {
        if (!kept) {
            wrong++;
            System.out.println("not kept: " + rule);
        }
    }

    private static void face() throws Exception {
        Class<?> c = JoinRouter.class;
        ask(Modifier.isPublic(c.getModifiers()) && Modifier.isFinal(c.getModifiers()), "public and final");
        TreeSet<String> names = new TreeSet<>();
        TreeSet<String> found = new TreeSet<>();
        for (Method m : c.getDeclaredMethods()) {
            if (!Modifier.isPrivate(m.getModifiers())) {
                StringBuilder b = new StringBuilder(m.getName()).append('(');
                for (Class<?> p : m.getParameterTypes()) {
                    b.append(b.charAt(b.length() - 1) == '(' ? "" : ",").append(p.getName());
                }
                found.add(b.append(')').append(m.getReturnType().getName()).toString());
                names.add(m.getName());
                ask(Modifier.isPublic(m.getModifiers()) && !Modifier.isStatic(m.getModifiers()), "a method of the face: " + m);
            }
        }
        ask(found.equals(new TreeSet<>(List.of(FACE.split(" ")))), "the face: " + found);
        Constructor<?>[] made = c.getDeclaredConstructors();
        ask(made.length == 1 && made[0].getParameterCount() == 0 && Modifier.isPublic(made[0].getModifiers()), "one constructor");
        for (Field f : c.getDeclaredFields()) {
            boolean constant = f.getName().equals("NONE") || f.getName().equals("NOTHING");
            ask(constant ? Modifier.isPublic(f.getModifiers()) : Modifier.isPrivate(f.getModifiers()), "a field: " + f);
            ask(!Modifier.isStatic(f.getModifiers()) || Modifier.isFinal(f.getModifiers()), "a static field is final: " + f);
        }
        List<Class<?>> all = new ArrayList<>(List.of(c.getDeclaredClasses()));
        all.add(c);
        for (Class<?> inside : all) {
            for (Method m : inside.getDeclaredMethods()) {
                boolean isFace = inside == c && Modifier.isPublic(m.getModifiers());
                ask(isFace || !names.contains(m.getName()), "no other method bears the name of a public one: " + m);
                ask(m.getParameterCount() <= 7, "seven parameters at most: " + m);
            }
        }
    }

    private static void classesInside() {
        Class<?>[] inside = JoinRouter.class.getDeclaredClasses();
        ask(inside.length <= 11, "some twelve classes: " + inside.length);
        for (Class<?> c : inside) {
            ask(Modifier.isStatic(c.getModifiers()) && Modifier.isPrivate(c.getModifiers()), "static and private: " + c);
            ask(c.getDeclaredClasses().length == 0, "no class inside it: " + c);
        }
        List<Class<?>> all = new ArrayList<>(List.of(inside));
        all.add(JoinRouter.class);
        for (Class<?> c : all) {
            int fields = 0;
            for (Field f : c.getDeclaredFields()) {
                boolean isStatic = Modifier.isStatic(f.getModifiers());
                fields += isStatic ? 0 : 1;
                ask(!isStatic || Modifier.isFinal(f.getModifiers()), "a static field is final: " + f);
                ask(!isStatic || List.of("int", "long", "java.lang.String", "[I").contains(f.getType().getName()), "a constant: " + f);
            }
            ask(fields <= 20, "some twenty fields: " + c + " has " + fields);
        }
    }

    private static void words() throws Exception {
        String source = Files.readString(Path.of("src/main/java/JoinRouter.java"));
        String code = source.replaceAll("(?s)/\\*.*?\\*/", "").replaceAll("//[^\n]*", "").replaceAll("\"[^\"\n]*\"", "\"\"");
        String[] banned = {"throw", "throws", "try", "catch", "finally", "synchronized", "assert", "package", "import", "volatile", "transient", "native", "var",
            "while\\s*\\(true\\)", "->", "::", "new\\s+Object", "double", "float", "Exact", "hashCode", "toString", "equals", "Object", "Thread", "Random",
            "MAX_VALUE", "MIN_VALUE", "String\\[\\]", "\"\"\\s*\\+", "\\+\\s*\"\"", "protected"};
        for (String word : banned) {
            String bound = Character.isLetter(word.charAt(0)) ? "\\b" + word + (word.endsWith(")") || word.endsWith("]") ? "" : "\\b") : word;
            ask(!Pattern.compile(bound).matcher(code).find(), "a word that is not in the language: " + word);
        }
        for (char c : source.toCharArray()) {
            ask(c == '\n' || c >= 32 && c < 127, "signs 32 to 126: " + (int) c);
        }
        Matcher library = Pattern.compile("\\b(System|Math|Integer|Long|Arrays)\\.(\\w+)").matcher(code);
        while (library.find()) {
            ask(List.of("System.arraycopy", "Math.max", "Math.min").contains(library.group()), "in the library: " + library.group());
        }
        methodsAreShort(source);
        callsStayFlat(code);
    }

    private static void methodsAreShort(String source) {
        String[] lines = source.split("\n");
        for (int i = 0; i < lines.length; i++) {
            Matcher head = Pattern.compile("^( {4}| {8})[a-zA-Z][\\w\\[\\] ]*\\(.*\\) \\{$").matcher(lines[i]);
            if (head.matches() && !lines[i].contains("class ")) {
                int end = i;
                while (!lines[end].equals(head.group(1) + "}")) {
                    end++;
                }
                ask(end - i + 1 <= 60, "a method of some sixty lines: " + lines[i].strip());
            }
        }
    }

    /** Calls go at most eight deep, where methods that call one another in a ring count as one; and which rings there are. */
    private static void callsStayFlat(String code) {
        Map<String, String> bodies = bodies(code);
        List<String> names = new ArrayList<>(bodies.keySet());
        boolean[][] reach = reach(names, bodies);
        TreeSet<String> inRings = new TreeSet<>();
        for (int i = 0; i < names.size(); i++) {
            if (reach[i][i]) {
                inRings.add(names.get(i));
            }
        }
        ask(names.size() > 120, "the methods were found: " + names.size());
        ask(inRings.equals(new TreeSet<>(List.of("Route.pass", "Route.passAll", "Reader.readTest", "Reader.readBoth", "Reader.readPlain",
                "Reader.readSum", "Reader.readTerm", "Reader.readPart"))), "recursion only where its depth is carried: " + inRings);
        int[] deep = new int[names.size()];
        int most = 0;
        for (int i = 0; i < names.size(); i++) {
            most = Math.max(most, deep(i, reach, deep));
        }
        ask(most >= 5 && most <= 8, "calls go at most eight deep: " + most);
    }

    /** What stands in each method, by class and name. */
    private static Map<String, String> bodies(String code) {
        Map<String, String> bodies = new TreeMap<>();
        String inside = "";
        String current = "";
        for (String line : code.split("\n")) {
            Matcher type = Pattern.compile("^    private static final class (\\w+) \\{$").matcher(line);
            Matcher head = Pattern.compile("^( {4}| {8})(?:(?:public|private|static|final) )*[\\w\\[\\]]+ (\\w+)\\(.*\\) \\{$").matcher(line);
            if (type.matches()) {
                inside = type.group(1);
            } else if (head.matches()) {
                current = (head.group(1).length() == 4 ? "JoinRouter" : inside) + "." + head.group(2);
                bodies.put(current, "");
            } else if (!current.isEmpty()) {
                bodies.put(current, bodies.get(current) + line + "\n");
            }
        }
        return bodies;
    }

    private static boolean[][] reach(List<String> names, Map<String, String> bodies) {
        int n = names.size();
        boolean[][] reach = new boolean[n][n];
        for (int i = 0; i < n; i++) {
            String own = names.get(i).replaceAll("\\..*", ".");
            Matcher call = Pattern.compile("(\\.)?\\b(\\w+)\\(").matcher(bodies.get(names.get(i)));
            while (call.find()) {
                for (int j = 0; j < n; j++) {
                    // A call of another object is taken as one of each class that has such a method; one without is of the own class, or of the outer one.
                    boolean isOfOwn = names.get(j).startsWith(own);
                    boolean mayBe = call.group(1) == null ? isOfOwn || names.get(j).startsWith("JoinRouter.") : !isOfOwn;
                    reach[i][j] |= mayBe && names.get(j).endsWith("." + call.group(2));
                }
            }
        }
        for (int k = 0; k < n; k++) {
            for (int i = 0; i < n; i++) {
                for (int j = 0; j < n; j++) {
                    reach[i][j] |= reach[i][k] && reach[k][j];
                }
            }
        }
        return reach;
    }

    private static int deep(int i, boolean[][] reach, int[] deep) {
        if (deep[i] == 0) {
            int below = 0;
            for (int j = 0; j < reach.length; j++) {
                if (reach[i][j] && !reach[j][i]) {
                    below = Math.max(below, deep(j, reach, deep));
                }
            }
            deep[i] = below + 1;
        }
        return deep[i];
    }

    /** 512 of the calls that make most must leave the room far from full. */
    private static void room() {
        com.sun.management.ThreadMXBean bean = (com.sun.management.ThreadMXBean) java.lang.management.ManagementFactory.getThreadMXBean();
        long id = Thread.currentThread().getId();
        new JoinRouter();
        long before = bean.getThreadAllocatedBytes(id);
        JoinRouter x = new JoinRouter();
        long made = bean.getThreadAllocatedBytes(id) - before;
        // A LAW of "bars;bars;..": of all that is called only law() and few() make anything.
        int word = 'b' << 24 | 'a' << 16 | 'r' << 8 | 's';
        int gap = ';' << 24 | ' ' << 16 | ' ' << 8 | ' ';
        before = bean.getThreadAllocatedBytes(id);
        x.image(0);
        for (int i = 0; i < 100; i++) {
            x.feed(word, gap, word, gap, word);
            x.law();
            x.back(0);
            x.few(20, 99);
            x.come(0, 1, 1);
            x.cheapest(0, 1, 1, 0);
            x.days(i, 60);
        }
        long used = bean.getThreadAllocatedBytes(id) - before;
        ask(made < 60000, "a new object is small: " + made + " bytes");
        ask(used < 200000, "calls make little: " + used + " bytes");
    }
}
