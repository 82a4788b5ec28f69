import java.io.IOException;
import java.lang.reflect.Constructor;
import java.lang.reflect.Field;
import java.lang.reflect.Method;
import java.lang.reflect.Modifier;
import java.nio.file.Files;
import java.nio.file.Path;
import java.util.ArrayList;
import java.util.List;
import java.util.Set;
import java.util.TreeSet;
import java.util.regex.Matcher;
import java.util.regex.Pattern;

/** The document's public face, and those rules of LANGUAGE.md that a look at class and text can tell. */
public final class FaceTest {
    private static final Due DUE = new Due("FaceTest");
    private static final Path SOURCE = Path.of("src/main/java/EclipseHouse.java");
    private static final Set<String> FACE = Set.of(
        "boolean tables(int,int,int)", "int moon(int,int)", "int next(int,int,int)", "int round(int,int)", "int many(int,int,int)",
        "int date(int,int,int)", "int day(int,int,int,int)", "int seen(int,int,int)", "int feed(int,int,int,int,int)",
        "boolean end(int)", "int reign(int,int)", "int record(int)", "int fault(int)", "int means(int,int)", "int meant(int,int,int)",
        "int slips(int,int)", "int lets(int)", "int slow(int)", "int drop(int)");

    public static void main(String[] args) throws IOException {
        methods();
        constantsAndConstructor();
        classesInside();
        staticFields();
        text();
        lengths();
        library();
        DUE.finish();
    }

    private static String sign(Method m) {
        StringBuilder sign = new StringBuilder(m.getReturnType() + " " + m.getName() + "(");
        for (int i = 0; i < m.getParameterCount(); i++) {
            sign.append(i == 0 ? "" : ",").append(m.getParameterTypes()[i]);
        }
        return sign.append(")").toString();
    }

    private static void methods() {
        Set<String> open = new TreeSet<>();
        Set<String> names = new TreeSet<>();
        for (Method m : EclipseHouse.class.getDeclaredMethods()) {
            if (!Modifier.isPrivate(m.getModifiers())) {
                open.add(sign(m));
                names.add(m.getName());
                DUE.is(m + " is public and not static", (m.getModifiers() & (Modifier.PUBLIC | Modifier.STATIC)) == Modifier.PUBLIC, true);
            }
        }
        DUE.is("the face: " + open, open.equals(FACE), true);
        for (Class<?> c : EclipseHouse.class.getDeclaredClasses()) {
            for (Method m : c.getDeclaredMethods()) {
                DUE.is(m + " bears no public name", names.contains(m.getName()), false);
            }
        }
        for (Method m : EclipseHouse.class.getDeclaredMethods()) {
            DUE.is(m + " bears no public name", Modifier.isPrivate(m.getModifiers()) && names.contains(m.getName()), false);
        }
    }

    private static void constantsAndConstructor() {
        DUE.is("public and final", EclipseHouse.class.getModifiers(), Modifier.PUBLIC | Modifier.FINAL);
        for (Field f : EclipseHouse.class.getDeclaredFields()) {
            DUE.is(f + " is hidden", Modifier.isPrivate(f.getModifiers()), !f.getName().equals("NONE"));
        }
        Constructor<?>[] constructors = EclipseHouse.class.getDeclaredConstructors();
        DUE.is("one constructor", constructors.length, 1);
        DUE.is("of no parameters", constructors[0].getParameterCount(), 0);
        DUE.is("public", constructors[0].getModifiers(), Modifier.PUBLIC);
    }

    private static void classesInside() {
        DUE.is("at most twelve classes", EclipseHouse.class.getDeclaredClasses().length <= 11, true);
        for (Class<?> c : EclipseHouse.class.getDeclaredClasses()) {
            DUE.is(c + " is static", Modifier.isStatic(c.getModifiers()), true);
            int fields = 0;
            for (Field f : c.getDeclaredFields()) {
                boolean isStatic = Modifier.isStatic(f.getModifiers());
                DUE.is(f + " is final if static", isStatic && !Modifier.isFinal(f.getModifiers()), false);
                fields += isStatic ? 0 : 1;
            }
            DUE.is("fields of " + c, fields <= 20, true);
            for (Method m : c.getDeclaredMethods()) {
                DUE.is(m + " takes at most seven", m.getParameterCount() <= 7, true);
            }
        }
    }

    /** Rule 5: static fields are constants, or rows that are written out. */
    private static void staticFields() {
        Set<Class<?>> fit = Set.of(int.class, long.class, boolean.class, char.class, String.class,
            int[].class, long[].class, char[].class, byte[].class);
        for (Class<?> c : classes()) {
            for (Field f : c.getDeclaredFields()) {
                if (Modifier.isStatic(f.getModifiers())) {
                    DUE.is(f + " is final", Modifier.isFinal(f.getModifiers()), true);
                    DUE.is(f + " is of a type that fits", fit.contains(f.getType()), true);
                }
            }
        }
    }

    private static List<Class<?>> classes() {
        List<Class<?>> classes = new ArrayList<>(List.of(EclipseHouse.class.getDeclaredClasses()));
        classes.add(EclipseHouse.class);
        return classes;
    }

    /** Rule 11: methods stay short, some sixty lines. */
    private static void lengths() throws IOException {
        Pattern begin = Pattern.compile("( +)(?:[a-zA-Z]\\S* )*\\w+\\(.*\\) \\{");
        String indent = null;
        String name = "";
        int from = 0;
        int found = 0;
        List<String> lines = Files.readAllLines(SOURCE);
        for (int i = 0; i < lines.size(); i++) {
            Matcher m = begin.matcher(lines.get(i));
            if (indent == null && m.matches()) {
                indent = m.group(1);
                name = lines.get(i).strip();
                from = i;
                found++;
            } else if (indent != null && lines.get(i).equals(indent + "}")) {
                DUE.is("lines of " + name + " are at most sixty", i - from + 1 <= 60, true);
                indent = null;
            }
        }
        int methods = 0;
        for (Class<?> c : classes()) {
            methods += c.getDeclaredMethods().length + c.getDeclaredConstructors().length;
        }
        DUE.is("methods and constructors looked at", found, methods);
    }

    /** Rule 4: of the library, only functions that it lists (or their like) are called. */
    private static void library() throws IOException {
        Matcher call = Pattern.compile("\\b(Math|Long|Integer|Arrays|Character|Boolean|Short|Byte|Double|Float|List)[.](\\w+)").matcher(bare());
        Set<String> fit = Set.of("Math.min", "Math.max", "Math.floorDiv", "Math.floorMod", "Long.bitCount",
            "Long.numberOfTrailingZeros", "Long.numberOfLeadingZeros");
        while (call.find()) {
            DUE.is(call.group() + " is of the library's part that fits", fit.contains(call.group()), true);
        }
    }

    private static String bare() throws IOException {
        String text = Files.readString(SOURCE);
        return text.replaceAll("(?s)/\\*.*?\\*/", "").replaceAll("//[^\n]*", "").replaceAll("\"[^\"\n]*\"|'[^'\n]*'", "0");
    }

    private static void text() throws IOException {
        String text = Files.readString(SOURCE);
        Matcher word = Pattern.compile("[A-Za-z_][A-Za-z_0-9]*|->|::").matcher(bare());
        Set<String> refused = Set.of("throw", "throws", "try", "catch", "synchronized", "assert", "import", "package", "->", "::",
            "native", "transient", "volatile", "System", "Object", "Thread", "hashCode", "toString", "getClass");
        while (word.find()) {
            DUE.is("the word " + word.group(), refused.contains(word.group()), false);
        }
        for (char c : text.toCharArray()) {
            if (c > 126 || c < 32 && c != '\n') {
                DUE.is("the sign " + (int) c, 0, 1);
            }
        }
    }
}
