import com.sun.management.ThreadMXBean;
import java.io.IOException;
import java.lang.management.ManagementFactory;
import java.lang.reflect.Constructor;
import java.lang.reflect.Field;
import java.lang.reflect.Member;
import java.lang.reflect.Method;
import java.lang.reflect.Modifier;
import java.nio.file.Files;
import java.nio.file.Path;
import java.util.ArrayList;
import java.util.Arrays;
import java.util.Collections;
import java.util.List;
import java.util.NoSuchElementException;
import java.util.Random;

/** The face is the document's and no more, the source keeps to what can be seen of the language's rules, calls make nothing. */
public final class FaceTests {
    private static final String[] FACE = {
        "int sign(int)", "boolean end(int)", "int rows()", "int row(int,int)", "int sheet(int,int,int,int)",
        "int becomes(int,int)", "int adds(int,int,int)", "int drops(int)", "int slice(int,int,int)",
        "int inside(int,int,int,int)", "int round(int,int,int)", "int splits(int,int,int,int)", "int slices(int)",
        "int cut(int,int,int)", "int stores(int,int,int)", "int checks(int)", "int stronger(int)", "int clears()",
        "int breaks(int,int,int)", "int wholes()", "int hull()", "int nearest(int,int,int)", "int most(int,int,int)",
        "int gains(int,int)", "int loses(int,int,int)", "int tightest()", "int day()", "int undo()", "int years(int,int)",
        "boolean keep(int)", "boolean again(int)", "int count(int)", "long told(int)"};
    private static final String[] RULED_OUT = {"->", "::", "Exact(", "catch", "finally", "synchronized", "assert ", "double",
        "float", "System.out", "Random", "String.valueOf", "static {", "protected", "instanceof", "getClass", "hashCode",
        "toString", "equals(", "@", "Object"};
    private static int wrong = 0;

    private static void due(String what, Object got, Object want) {
        if (!got.equals(want)) {
            wrong++;
            System.out.println("face: " + what + " is " + got + ", due is " + want);
        }
    }

    public static void main(String[] args) throws IOException {
        face();
        inside();
        source(Files.readString(Path.of(args.length > 0 ? args[0] : ".", "src/main/java/SplitSlices.java")));
        room();
        System.out.println(wrong == 0 ? "face: as due" : "face: " + wrong + " things are not as due");
        if (wrong != 0) {
            System.exit(1);
        }
    }

    private static void face() {
        Class<?> c = SplitSlices.class;
        due("modifiers", Modifier.toString(c.getModifiers()), "public final");
        List<String> seen = new ArrayList<>();
        List<String> names = new ArrayList<>();
        for (Method m : c.getDeclaredMethods()) {
            if (isPrivate(m)) {
                continue;
            }
            String types = Arrays.toString(m.getParameterTypes()).replaceAll("[\\[\\] ]", "");
            seen.add(m.getReturnType() + " " + m.getName() + "(" + types + ")");
            names.add(m.getName());
            due(m + " modifiers", Modifier.toString(m.getModifiers()), "public");
            boolean throwing = m.getName().equals("row") || m.getName().equals("told");
            due(m + " throws", Arrays.asList(m.getExceptionTypes()), throwing ? List.of(NoSuchElementException.class) : List.of());
        }
        List<String> want = new ArrayList<>(List.of(FACE));
        Collections.sort(seen);
        Collections.sort(want);
        due("methods", seen, want);
        for (Method m : c.getDeclaredMethods()) {
            due("private " + m.getName(), isPrivate(m) && names.contains(m.getName()), false);
        }
        for (Field f : c.getDeclaredFields()) {
            due("field " + f.getName(), isPrivate(f), !f.getName().equals("NONE"));
        }
        due("NONE", SplitSlices.NONE, -1);
        due("constructors", Arrays.toString(c.getDeclaredConstructors()), "[public SplitSlices()]");
    }

    private static boolean isPrivate(Member m) {
        return Modifier.isPrivate(m.getModifiers());
    }

    private static void inside() {
        Class<?>[] classes = SplitSlices.class.getDeclaredClasses();
        due("at most twelve classes", classes.length < 12, true);
        List<Class<?>> all = new ArrayList<>(List.of(classes));
        all.add(SplitSlices.class);
        for (Class<?> c : all) {
            due(c + " is static", c == SplitSlices.class || Modifier.isStatic(c.getModifiers()), true);
            int fields = 0;
            for (Field f : c.getDeclaredFields()) {
                boolean isStatic = Modifier.isStatic(f.getModifiers());
                fields += isStatic ? 0 : 1;
                due(f + " is final", !isStatic || Modifier.isFinal(f.getModifiers()), true);
            }
            due(c + " has at most twenty fields", fields <= 20, true);
            for (Method m : c.getDeclaredMethods()) {
                due(m + " has at most seven parameters", m.getParameterCount() <= 7, true);
            }
            for (Constructor<?> k : c.getDeclaredConstructors()) {
                due(k + " throws", k.getExceptionTypes().length, 0);
            }
        }
    }

    private static void source(String text) {
        String code = text.replaceAll("(?s)/\\*.*?\\*/", "").replaceAll("//[^\n]*", "");
        for (String no : RULED_OUT) {
            due("'" + no + "' in the source", code.contains(no), false);
        }
        List<String> imports = new ArrayList<>();
        for (String line : code.split("\n")) {
            if (line.startsWith("import") || line.startsWith("package")) {
                imports.add(line.trim());
            }
        }
        due("imports", imports, List.of("import java.util.NoSuchElementException;"));
        longMethods(text.split("\n"));
    }

    /** A method begins with a line that opens a block behind brackets, four or eight signs in, and ends at that depth. */
    private static void longMethods(String[] lines) {
        for (int i = 0; i < lines.length; i++) {
            String line = lines[i];
            int depth = line.length() - line.stripLeading().length();
            if ((depth == 4 || depth == 8) && line.endsWith("{") && line.contains("(") && !line.contains(" class ")) {
                int end = i;
                while (!lines[end].equals(" ".repeat(depth) + "}")) {
                    end++;
                }
                due("lines of " + line.trim() + " are at most 60", end - i < 60, true);
            }
        }
    }

    /** A run has room for 600,000 objects in all: calls make none, and an object is small. */
    private static void room() {
        ThreadMXBean threads = (ThreadMXBean) ManagementFactory.getThreadMXBean();
        long id = Thread.currentThread().getId();
        calls(new SplitSlices(), 1);
        long before = threads.getThreadAllocatedBytes(id);
        SplitSlices s = new SplitSlices();
        long made = threads.getThreadAllocatedBytes(id);
        calls(s, 40);
        long after = threads.getThreadAllocatedBytes(id);
        due("an object takes under 60,000 bytes (" + (made - before) + ")", made - before < 60_000, true);
        due("calls make nothing to speak of (" + (after - made) + ")", after - made < 20_000, true);
    }

    private static int calls(SplitSlices s, int times) {
        Random random = new Random(4);
        int sum = 0;
        for (int i = 0; i < times; i++) {
            sum += s.sign('+' << 24 | '2' << 16 | 'x' << 8 | '+') + s.sign('3' << 24 | 'y' << 16 | '<' << 8 | '9') + s.rows();
            sum += s.adds(random.nextInt(11) - 5, 3, 9) + s.becomes(0, i % 50) + s.stores(0, 0, 0) + s.stores(1, 1, 1);
            sum += s.sign('s' << 24 | '0' << 16 | '1' << 8 | '0') + s.day() + s.sheet(2, 3, 5, 7) + s.inside(3, 1, 1, 2);
            for (int r = 0; r < 3; r++) {
                sum += s.slice(r, 0, 1) + s.slices(r) + s.splits(r, 1, 1, 2) + s.round(5, 5, 7);
            }
            sum += s.cut(0, 1, 0) + s.checks(0) + s.stronger(0) + s.breaks(1, 1, 2) + s.wholes() + s.hull() + s.nearest(9, 9, 2);
            sum += s.most(3, 4, 0) + s.gains(2, -3) + s.loses(1, 1, 3) + s.tightest() + s.years(i, 20) + s.undo();
            sum += (s.keep(i % 2) ? 1 : 0) + (s.again(0) ? 1 : 0) + s.count(2) + s.count(6) + s.clears() + s.drops(0);
        }
        return sum;
    }
}
