import java.lang.reflect.Array;
import java.lang.reflect.Constructor;
import java.lang.reflect.Field;
import java.lang.reflect.Method;
import java.lang.reflect.Modifier;
import java.nio.file.Files;
import java.nio.file.Path;
import java.util.ArrayDeque;
import java.util.Arrays;
import java.util.Collections;
import java.util.Deque;
import java.util.IdentityHashMap;
import java.util.Set;
import java.util.TreeSet;
import java.util.regex.Matcher;
import java.util.regex.Pattern;

/** The face of the document and nothing else (LANGUAGE.md 1), some rules of form, and the room. */
public final class FaceTest {
    private static final Check CHECK = new Check();

    private static final String[] FACE = {
        "int status()", "int reason(int)", "int stand(int,int)", "int ground(int,int)",
        "int near(int,int,int,int)", "int cone(int,int,int)", "boolean towtime(int)",
        "int visit(int,int,int,int,int)", "boolean tear(int,int)", "int told(int,int)",
        "boolean put(int,int)", "int why(int,int)", "boolean off(int)", "boolean tow(int,int,int)",
        "int plan()", "int search()", "int most()", "int late(int,int)", "int changed(int)",
        "int now(int)", "int waiting()", "boolean swap(int,int)", "int stays(int)",
        "int stay(int,int,int)", "int at(int,int,int)", "int crowd(int,int,int)",
    };

    private static final String[] BARRED = {
        "\\bthrow\\b", "\\btry\\b", "\\bcatch\\b", "\\bsynchronized\\b", "\\bassert\\b", "->", "::",
        "Exact\\b", "\\bimport\\b", "\\bpackage\\b", "\\bprotected\\b", "@",
    };

    public static void main(String[] args) throws Exception {
        theClass();
        theMethods();
        theFields();
        theClassesInside();
        theText();
        methodsAreShort();
        theRoom();
        callsMakeNothing();
        CHECK.end();
    }

    private static void theClass() {
        int modifiers = ApronDesk.class.getModifiers();
        CHECK.due("public", Modifier.isPublic(modifiers), true);
        CHECK.due("final", Modifier.isFinal(modifiers), true);
        Constructor<?>[] made = ApronDesk.class.getDeclaredConstructors();
        CHECK.due("constructors", made.length, 1);
        CHECK.due("public constructor", Modifier.isPublic(made[0].getModifiers()), true);
        CHECK.due("without arguments", made[0].getParameterCount(), 0);
    }

    private static void theMethods() {
        Set<String> seen = new TreeSet<>();
        Set<String> names = new TreeSet<>();
        for (Method m : ApronDesk.class.getDeclaredMethods()) {
            if (Modifier.isPublic(m.getModifiers())) {
                String types = Arrays.toString(m.getParameterTypes()).replaceAll("[\\[\\] ]", "");
                seen.add(m.getReturnType() + " " + m.getName() + "(" + types + ")");
                names.add(m.getName());
            }
        }
        Set<String> due = new TreeSet<>(Arrays.asList(FACE));
        CHECK.due("the face is " + seen, seen.equals(due), true);
        for (Method m : ApronDesk.class.getDeclaredMethods()) {
            boolean open = Modifier.isPublic(m.getModifiers());
            CHECK.due(m + " is private", open || Modifier.isPrivate(m.getModifiers()), true);
            CHECK.due(m + " has a name of its own", open || !names.contains(m.getName()), true);
            CHECK.due(m + " has few parameters", m.getParameterCount() <= 7, true);
        }
        for (Class<?> inside : ApronDesk.class.getDeclaredClasses()) {
            for (Method m : inside.getDeclaredMethods()) {
                CHECK.due(m + " has a name of its own", !names.contains(m.getName()), true);
                CHECK.due(m + " has few parameters", m.getParameterCount() <= 7, true);
            }
        }
    }

    private static void theFields() throws Exception {
        for (Field f : ApronDesk.class.getDeclaredFields()) {
            boolean isNone = f.getName().equals("NONE");
            CHECK.due(f + " is seen", Modifier.isPublic(f.getModifiers()), isNone);
            CHECK.due(f + " is private", Modifier.isPrivate(f.getModifiers()), !isNone);
            boolean isStatic = Modifier.isStatic(f.getModifiers());
            CHECK.due(f + " is fixed", !isStatic || Modifier.isFinal(f.getModifiers()), true);
            boolean isNumber = f.getType() == int.class || f.getType() == int[].class;
            CHECK.due(f + " is a constant of numbers", !isStatic || isNumber, true);
        }
        CHECK.due("NONE", ApronDesk.class.getField("NONE").getInt(null), -1);
    }

    private static void theClassesInside() {
        Class<?>[] inside = ApronDesk.class.getDeclaredClasses();
        CHECK.due("at most twelve classes", inside.length <= 11, true);
        for (Class<?> c : inside) {
            CHECK.due(c + " is static", Modifier.isStatic(c.getModifiers()), true);
            CHECK.due(c + " is private", Modifier.isPrivate(c.getModifiers()), true);
            int fields = 0;
            for (Field f : c.getDeclaredFields()) {
                CHECK.due(f + " is of the object", Modifier.isStatic(f.getModifiers()), false);
                fields++;
            }
            CHECK.due(c + " has few fields", fields <= 20, true);
        }
    }

    private static void theText() throws Exception {
        String text = Files.readString(Path.of(System.getProperty("apron.source")));
        String code = text.replaceAll("(?s)/\\*.*?\\*/", "").replaceAll("//[^\n]*", "");
        for (String barred : BARRED) {
            CHECK.due(barred + " stands in the code", Pattern.compile(barred).matcher(code).find(), false);
        }
        for (int i = 0; i < text.length(); i++) {
            if (text.charAt(i) > 127) {
                CHECK.due("a sign above 127 at " + i, true, false);
            }
        }
        Matcher made = Pattern.compile("\\bnew\\b[^;]*;").matcher(code);
        while (made.find()) {
            String line = code.substring(code.lastIndexOf('\n', made.start()) + 1, made.end());
            boolean inField = line.trim().startsWith("private final");
            boolean inConstructor = line.trim().matches("\\w+ = new \\w+\\([\\w, ]*\\);");
            CHECK.due("made outside of constructors: " + line, inField || inConstructor, true);
        }
    }

    /** LANGUAGE.md 11: some sixty lines. A method ends with the brace below its first word. */
    private static void methodsAreShort() throws Exception {
        String text = Files.readString(Path.of(System.getProperty("apron.source")));
        Matcher method = Pattern.compile("(?ms)^( +)(public|private)[^=;{}]*\\) \\{\n.*?^\\1\\}").matcher(text);
        int methods = 0;
        while (method.find()) {
            methods++;
            long lines = method.group().lines().count();
            CHECK.due("short: " + method.group().lines().findFirst().get(), lines <= 60, true);
        }
        CHECK.due("methods are found", methods >= FACE.length, true);
    }

    /** Some 2,000 elements a desk: thousands of desks have room. */
    private static void theRoom() throws Exception {
        Set<Object> seen = Collections.newSetFromMap(new IdentityHashMap<>());
        Deque<Object> left = new ArrayDeque<>();
        left.add(new ApronDesk());
        int elements = 0;
        while (!left.isEmpty()) {
            Object x = left.pop();
            if (!seen.add(x)) {
                continue;
            }
            if (x.getClass().isArray()) {
                elements += Array.getLength(x);
                continue;
            }
            for (Field f : x.getClass().getDeclaredFields()) {
                if (!Modifier.isStatic(f.getModifiers())) {
                    elements++;
                    f.setAccessible(true);
                    if (!f.getType().isPrimitive()) {
                        left.add(f.get(x));
                    }
                }
            }
        }
        System.out.println("a desk holds " + seen.size() + " objects, " + elements + " elements");
        CHECK.due("few objects", seen.size() <= 40, true);
        CHECK.due("few elements", elements <= 2_100, true);
    }

    /** The heap of a desk is the same behind its dearest calls: nothing new is kept. */
    private static void callsMakeNothing() {
        com.sun.management.ThreadMXBean bean =
                (com.sun.management.ThreadMXBean) java.lang.management.ManagementFactory.getThreadMXBean();
        long id = Thread.currentThread().getId();
        busyDay();
        long spare = Long.MAX_VALUE;
        for (int i = 0; i < 5; i++) {
            long before = bean.getThreadAllocatedBytes(id);
            busyDay();
            spare = Math.min(spare, bean.getThreadAllocatedBytes(id) - before);
        }
        System.out.println("a busy day made " + spare + " bytes");
        CHECK.due("a busy day makes its desk alone", spare < 16_000, true);
    }

    private static void busyDay() {
        ApronDesk d = new ApronDesk();
        for (int s = 0; s < 24; s++) {
            d.stand(1 + s % 5, 50 + s);
        }
        for (int v = 0; v < 40; v++) {
            d.visit(1 + v % 4, 50, 10 + v, 100 + v, 0);
        }
        d.most();
        d.search();
        d.plan();
        for (int v = 0; v < 40; v++) {
            d.late(v, 200 + v);
            d.tow(v, 150, v % 24);
            d.swap(v, (v + 1) % 40);
            d.stay(v, 0, 0);
            d.crowd(v, 50, v);
            d.at(v % 24, 90, 0);
        }
        d.now(140);
    }
}
