import java.io.IOException;
import java.lang.reflect.Array;
import java.lang.reflect.Constructor;
import java.lang.reflect.Executable;
import java.lang.reflect.Field;
import java.lang.reflect.Method;
import java.lang.reflect.Modifier;
import java.nio.file.Files;
import java.nio.file.Path;
import java.util.ArrayList;
import java.util.Arrays;
import java.util.Collections;
import java.util.IdentityHashMap;
import java.util.List;
import java.util.Set;
import java.util.TreeSet;
import java.util.regex.Matcher;
import java.util.regex.Pattern;
import java.util.stream.Collectors;

/** The face as the document has it, what LANGUAGE.md forbids, and the room that an object takes. */
public final class RulesTest {
    private static final Check check = new Check();

    public static void main(String[] args) throws Exception {
        face();
        inside();
        source();
        room();
        check.end("RulesTest");
    }

    private static void holds(String what, boolean is) {
        check.same(what, 1, Check.of(is));
    }

    // ---- the face

    private static String shown(Executable e, String name) {
        String types = Arrays.stream(e.getParameterTypes()).map(Class::getSimpleName).collect(Collectors.joining(" "));
        String thrown = Arrays.stream(e.getExceptionTypes()).map(Class::getSimpleName).collect(Collectors.joining(" "));
        return name + "(" + types + ") throws " + thrown;
    }

    private static void face() throws IOException {
        String doc = Files.readString(Path.of("../shared/DOC.md"));
        String face = doc.substring(doc.indexOf("```java"), doc.indexOf("```", doc.indexOf("```java") + 7));
        TreeSet<String> want = new TreeSet<>();
        Matcher m = Pattern.compile("public (\\w+ )?(\\w+)\\(([^)]*)\\)(?: throws ([\\w, ]+))?;").matcher(face);
        while (m.find()) {
            String types = Arrays.stream(m.group(3).split(", ")).map(p -> p.split(" ")[0]).collect(Collectors.joining(" "));
            String thrown = m.group(4) == null ? "" : m.group(4).replace(",", "");
            want.add((m.group(1) == null ? "" : m.group(1)) + m.group(2) + "(" + types + ") throws " + thrown);
        }
        TreeSet<String> got = new TreeSet<>();
        for (Method method : HorizonDues.class.getDeclaredMethods()) {
            if (!Modifier.isPrivate(method.getModifiers())) {
                got.add(shown(method, method.getReturnType().getSimpleName() + " " + method.getName()));
                holds(method + " is public", Modifier.isPublic(method.getModifiers()) && !Modifier.isStatic(method.getModifiers()));
            }
        }
        for (Constructor<?> c : HorizonDues.class.getDeclaredConstructors()) {
            got.add(shown(c, "HorizonDues"));
        }
        check.same("40 methods and a constructor", 41, want.size());
        holds("the face " + got + " is " + want, got.equals(want));
        holds("public final", HorizonDues.class.getModifiers() == (Modifier.PUBLIC | Modifier.FINAL));
        for (Field f : HorizonDues.class.getDeclaredFields()) {
            holds(f + " is private", Modifier.isPrivate(f.getModifiers()) || f.getName().equals("NONE"));
        }
    }

    // ---- the classes inside

    private static List<Class<?>> classes() {
        List<Class<?>> all = new ArrayList<>(List.of(HorizonDues.class));
        all.addAll(List.of(HorizonDues.class.getDeclaredClasses()));
        return all;
    }

    private static void inside() {
        Set<String> names = Arrays.stream(HorizonDues.class.getDeclaredMethods())
            .filter(m -> Modifier.isPublic(m.getModifiers())).map(Method::getName).collect(Collectors.toSet());
        holds("at most twelve classes", classes().size() <= 12);
        for (Class<?> c : classes()) {
            int fields = 0;
            for (Field f : c.getDeclaredFields()) {
                fields += Modifier.isStatic(f.getModifiers()) ? 0 : 1;
                holds(f + ": static fields are final",
                    !Modifier.isStatic(f.getModifiers()) || Modifier.isFinal(f.getModifiers()));
            }
            holds(c + " has " + fields + " fields", fields <= 20);
            for (Method m : c.getDeclaredMethods()) {
                holds(m + " takes at most seven", m.getParameterCount() <= 7);
                holds(m + " bears no public name", Modifier.isPublic(m.getModifiers()) || !names.contains(m.getName()));
            }
        }
    }

    // ---- the source

    private static void source() throws IOException {
        String text = Files.readString(Path.of("src/main/java/HorizonDues.java"));
        String code = text.replaceAll("(?s)/\\*.*?\\*/", "").replaceAll("//[^\n]*", "").replaceAll("\"[^\"]*\"", "\"\"");
        for (String word : new String[] {"try", "catch", "finally", "synchronized", "assert", "package", "protected",
            "float", "double", "Object", "Thread", "Random", "System\\.(?!arraycopy)\\w+", "->", "::", "instanceof"}) {
            String edged = Character.isLetter(word.charAt(0)) ? "\\b" + word : word;
            holds("no " + word, !Pattern.compile(edged + (word.endsWith("+") || edged.equals(word) ? "" : "\\b")).matcher(code).find());
        }
        Matcher imports = Pattern.compile("import ([\\w.]+);").matcher(code);
        while (imports.find()) {
            holds(imports.group(), imports.group(1).equals("java.util.NoSuchElementException"));
        }
        Matcher thrown = Pattern.compile("throw new (\\w+)").matcher(code);
        while (thrown.find()) {
            holds(thrown.group(), Set.of("NoSuchElementException", "IllegalArgumentException").contains(thrown.group(1)));
        }
        Matcher library = Pattern.compile("\\b(Math|Integer|Long|System|Arrays|String)\\.(\\w+)").matcher(code);
        while (library.find()) {
            holds(library.group(), Set.of("Math.max", "Math.min", "Math.abs", "Integer.bitCount", "System.arraycopy")
                .contains(library.group()));
        }
        int begun = 0;
        String[] lines = text.split("\n");
        for (int i = 0; i < lines.length; i++) {
            if (lines[i].matches(" {4}( {4})?(public|private|static|int|void|boolean|long|[A-Z]).*\\{")
                && !lines[i].contains("class ")) {
                begun = i;
            }
            if (lines[i].matches(" {4}( {4})?\\}")) {
                holds("a method of " + (i - begun) + " lines at " + (begun + 1), i - begun <= 60);
            }
            holds("line " + (i + 1) + " is short", lines[i].length() <= 120);
            holds("line " + (i + 1) + " is ASCII", lines[i].chars().allMatch(c -> c >= 32 && c < 127));
        }
    }

    // ---- the room

    private static long[] roomOf(HorizonDues x) throws IllegalAccessException {
        Set<Object> met = Collections.newSetFromMap(new IdentityHashMap<>());
        List<Object> open = new ArrayList<>(List.of(x));
        long elements = 0;
        while (!open.isEmpty()) {
            Object o = open.remove(open.size() - 1);
            if (!met.add(o)) {
                continue;
            }
            if (o.getClass().isArray()) {
                elements += Array.getLength(o);
                continue;
            }
            for (Field f : o.getClass().getDeclaredFields()) {
                if (!Modifier.isStatic(f.getModifiers())) {
                    elements++;
                    f.setAccessible(true);
                    Object next = f.get(o);
                    if (next != null && !f.getType().isPrimitive()) {
                        open.add(next);
                    }
                }
            }
        }
        return new long[] {met.size(), elements};
    }

    private static void room() throws IllegalAccessException {
        HorizonDues x = Check.landOf("villa 0 0 9;inn 4 4 9;tree 2 0 3 5;tax miles*2;");
        x.image();
        long[] before = roomOf(x);
        holds("at most 60 objects: " + before[0], before[0] <= 60);
        holds("at most 10000 elements: " + before[1], before[1] <= 10000);
        for (int i = 0; i < 50; i++) {
            x.firs(1, i);
            x.round(i);
            x.cheat();
            x.years(1);
            x.tell(0, i);
            x.image();
            x.restore();
            Check.told(x, "tax miles;villa 0 0 " + i + ";");
        }
        long[] after = roomOf(x);
        check.same("no more objects", before[0], after[0]);
        check.same("no more elements", before[1], after[1]);
    }
}
