import com.sun.management.ThreadMXBean;
import java.lang.management.ManagementFactory;
import java.lang.reflect.Array;
import java.lang.reflect.Constructor;
import java.lang.reflect.Field;
import java.lang.reflect.Method;
import java.lang.reflect.Modifier;
import java.nio.file.Files;
import java.nio.file.Path;
import java.util.ArrayList;
import java.util.Arrays;
import java.util.IdentityHashMap;
import java.util.List;
import java.util.Set;
import java.util.TreeSet;
import java.util.regex.Matcher;
import java.util.regex.Pattern;

/** Looks for what ../shared/LANGUAGE.md rules out, as far as words and members tell it, and for the document's face. */
public final class LanguageTest {
    private static final Path SOURCE = Path.of("src/main/java/PaperBubbles.java");
    private static final Path DOCUMENT = Path.of("../shared/DOC.md");
    // "some twelve", "some twenty", "some sixty": a few more are fine
    private static final int MOST_CLASSES = 14;
    private static final int MOST_FIELDS = 24;
    private static final int MOST_LINES = 66;
    // The room of a run, and what of it an object and a quarter of its calls may take.
    private static final int MOST_OBJECTS = 600000 / 4;
    private static final int MOST_ELEMENTS = 7300000 / 4;
    private static final long MOST_BYTES = 4L * MOST_ELEMENTS;
    private static int wrong = 0;

    public static void main(String[] args) throws Exception {
        String source = Files.readString(SOURCE);
        face(Files.readString(DOCUMENT));
        words(source.replaceAll("(?s)/\\*.*?\\*/", "").replaceAll("//.*", ""));
        members();
        lengths(source);
        room();
        System.out.println("LanguageTest: " + wrong + " faults");
        if (wrong != 0) {
            System.exit(1);
        }
    }

    private static void fault(boolean is, String what) {
        if (is) {
            wrong++;
            System.out.println("LanguageTest: " + what);
        }
    }

    private static void face(String document) {
        Set<String> want = new TreeSet<>();
        Matcher calls = Pattern.compile("    public int (\\w+)\\(([^)]*)\\);").matcher(document);
        while (calls.find()) {
            want.add(calls.group(1) + "(" + calls.group(2).replaceAll(" ?\\w+(,|$)", "$1").replace(" ", "") + ")");
        }
        Set<String> got = new TreeSet<>();
        Set<String> privates = new TreeSet<>();
        Set<String> names = new TreeSet<>();
        for (Method method : PaperBubbles.class.getDeclaredMethods()) {
            if (Modifier.isPublic(method.getModifiers())) {
                List<String> types = new ArrayList<>();
                for (Class<?> type : method.getParameterTypes()) {
                    types.add(type.getName());
                }
                got.add(method.getName() + "(" + String.join(",", types) + ")");
                names.add(method.getName());
                fault(method.getReturnType() != int.class, method + " answers no int");
            } else {
                fault(!Modifier.isPrivate(method.getModifiers()), method + " is not private");
                privates.add(method.getName());
            }
        }
        fault(want.size() != 41 - 1, "the document's face has " + want.size() + " methods");
        fault(!want.equals(got), "the face is " + got + ", the document's " + want);
        for (String name : privates) {
            fault(names.contains(name), "a private method is named " + name);
        }
        Constructor<?>[] constructors = PaperBubbles.class.getDeclaredConstructors();
        fault(constructors.length != 1 || !Modifier.isPublic(constructors[0].getModifiers()), "the constructor");
        fault(!Modifier.isFinal(PaperBubbles.class.getModifiers()), "the class is not final");
    }

    private static void words(String code) {
        String[] not = {"\\bthrows?\\b", "\\btry\\b", "\\bcatch\\b", "\\bsynchronized\\b", "\\bassert\\b", "->", "::",
            "\\bimport (?!java\\.util\\.(Arrays|ArrayList|List|Iterator);)", "\\bpackage\\b", "Exact\\b", "\\bnative\\b",
            "\\bvolatile\\b", "\\bThread\\b", "\\bRandom\\b", "System\\.(?!arraycopy)", "\\bhashCode\\b",
            "static \\{", "\" *\\+", "\\+ *\"", "Arrays\\.(?!fill|copyOf|copyOfRange)", "[^\\x00-\\x7F]"};
        for (String word : not) {
            Matcher found = Pattern.compile(word).matcher(code);
            fault(found.find(), "the source has " + word);
        }
    }

    private static void members() {
        Class<?>[] inside = PaperBubbles.class.getDeclaredClasses();
        fault(inside.length + 1 > MOST_CLASSES, (inside.length + 1) + " classes");
        List<Class<?>> all = new ArrayList<>(Arrays.asList(inside));
        all.add(PaperBubbles.class);
        for (Class<?> one : all) {
            fault(one != PaperBubbles.class && !Modifier.isStatic(one.getModifiers()), one + " is not static");
            fault(one != PaperBubbles.class && Modifier.isPublic(one.getModifiers()), one + " is public");
            int fields = 0;
            for (Field field : one.getDeclaredFields()) {
                boolean shown = one == PaperBubbles.class && !Modifier.isPrivate(field.getModifiers());
                fault(shown, field + " is not private");
                if (Modifier.isStatic(field.getModifiers())) {
                    fault(!Modifier.isFinal(field.getModifiers()), field + " is static and not final");
                } else {
                    fields++;
                }
            }
            fault(fields > MOST_FIELDS, one + " has " + fields + " fields");
            for (Method method : one.getDeclaredMethods()) {
                fault(method.getParameterCount() > 7, method + " takes too many");
            }
        }
    }

    private static void lengths(String source) {
        String[] lines = source.split("\n");
        int begun = -1;
        for (int i = 0; i < lines.length; i++) {
            if (lines[i].matches(" {4,8}(private |public |static )*[\\w\\[\\]]+ \\w+\\(.*\\) \\{")) {
                begun = i;
            }
            if (begun >= 0 && lines[i].matches(" {4,8}}") && lines[i].indexOf('}') == inset(lines[begun])) {
                fault(i - begun > MOST_LINES, "the method at line " + (begun + 1) + " is long");
                begun = -1;
            }
        }
    }

    private static int inset(String line) {
        return line.length() - line.stripLeading().length();
    }

    /** All that one object holds, and what calls make. */
    private static void room() throws IllegalAccessException {
        PaperBubbles x = new PaperBubbles();
        IdentityHashMap<Object, Boolean> met = new IdentityHashMap<>();
        int elements = elementsOf(x, met);
        fault(met.size() > MOST_OBJECTS, "one object holds " + met.size() + " objects");
        fault(elements > MOST_ELEMENTS, "one object holds " + elements + " fields and elements");
        ThreadMXBean threads = (ThreadMXBean) ManagementFactory.getThreadMXBean();
        someCalls(x);
        long before = threads.getCurrentThreadAllocatedBytes();
        long idle = threads.getCurrentThreadAllocatedBytes() - before;
        before = threads.getCurrentThreadAllocatedBytes();
        someCalls(x);
        long made = threads.getCurrentThreadAllocatedBytes() - before - idle;
        fault(made > MOST_BYTES, "calls made " + made + " bytes of objects");
    }

    private static int elementsOf(Object object, IdentityHashMap<Object, Boolean> met) throws IllegalAccessException {
        if (object == null || met.put(object, true) != null) {
            return 0;
        }
        Class<?> type = object.getClass();
        int elements = 0;
        if (type.isArray()) {
            elements = Array.getLength(object);
            for (int i = 0; i < Array.getLength(object) && !type.getComponentType().isPrimitive(); i++) {
                elements += elementsOf(Array.get(object, i), met);
            }
            return elements;
        }
        for (Class<?> at = type; at != Object.class && at != String.class; at = at.getSuperclass()) {
            for (Field field : at.getDeclaredFields()) {
                if (Modifier.isStatic(field.getModifiers())) {
                    continue;
                }
                elements++;
                field.setAccessible(true);
                elements += field.getType().isPrimitive() ? 0 : elementsOf(field.get(object), met);
            }
        }
        return elements;
    }

    private static void someCalls(PaperBubbles x) {
        for (int km = 5; km < 70; km += 12) {
            x.tool(km);
        }
        x.wall(3, 3);
        for (int cell = 0; cell < 9; cell++) {
            x.set(cell, 0, 11 * cell);
            x.ofCell(cell, 2);
            x.ofCell(cell, 3);
            x.wayOut(cell);
            x.goneBy(cell);
            x.needs(cell, 9);
        }
        x.feed(0x29612B2831L, 5);
        x.text(0);
        x.feed(0x61L, 1);
        x.text(1);
        x.law(0, 1, 2, 3);
        x.sheet(0, 8, 9);
        x.put(0, 3, 5);
        x.move(0, 3, 0, 4, 1);
        for (int tool = 0; tool < 6; tool++) {
            x.best(tool, 0);
            x.bestTwo(tool, 0);
            x.came(tool, 4, 1, 0);
            x.odds(tool, 4, 100, 0);
            x.stroke(tool, 4, 1);
            x.voice(tool, 3, 7);
            x.trace(2);
            x.as(tool, 1);
            x.ofTool(tool, 3);
        }
        x.nights(3);
        x.days(9);
        x.image();
        x.restore();
        x.tell(4);
        x.check();
        x.biggest(0);
        x.bubbles();
        x.lamp(2);
        x.airs(0);
        x.judge(0);
        x.told(1);
    }
}
