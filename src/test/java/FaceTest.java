import java.io.IOException;
import java.lang.reflect.Constructor;
import java.lang.reflect.Field;
import java.lang.reflect.Member;
import java.lang.reflect.Method;
import java.lang.reflect.Modifier;
import java.nio.file.Files;
import java.nio.file.Path;
import java.util.Arrays;
import java.util.List;
import java.util.Map;
import java.util.Set;
import java.util.TreeSet;

/** The class has the document's face and no other, and keeps to what LANGUAGE.md rules of its form. */
public final class FaceTest {
    private static final Checks C = new Checks("FaceTest");
    private static final Set<String> FACE = new TreeSet<>(Arrays.asList(
            "corner(int,int):int", "polygon():int", "forget():int", "takeAway(int):int", "vehicle(int,int):void",
            "cusp(int):int", "margin(int):int", "clearance(int,int):int", "isFree(int,int,int):boolean",
            "word(int,int,int,int,int,int):int", "found(int):int", "cheapest(int,int,int,int,int,int,boolean):int",
            "cheapestAnew(int,int,int,int,int,int,boolean):int", "plan(int,int,int,int,int,int,boolean):int",
            "begin(int,int,int):void", "drive(int):int", "keep():int", "shorten(int):int", "planOf(int,int):int",
            "moveOf(int,int):int", "poseOf(int,int):int", "segment(int,int):int", "speeds(int,int,int,int):void",
            "speed(int,int):float", "peak(int):int"));
    private static final Set<String> CONSTANTS = new TreeSet<>(Arrays.asList("NONE", "STRAIGHT", "LEFT", "RIGHT", "BACK",
            "BACK_LEFT", "BACK_RIGHT"));

    public static void main(String[] args) throws IOException {
        methods();
        fields();
        constructors();
        classesInside();
        source();
        documentsForm();
        C.end();
    }

    private static String told(Method method) {
        StringBuilder text = new StringBuilder(method.getName()).append('(');
        for (Class<?> type : method.getParameterTypes()) {
            text.append(text.charAt(text.length() - 1) == '(' ? "" : ",").append(type.getName());
        }
        return text.append("):").append(method.getReturnType().getName()).toString();
    }

    private static boolean isPrivate(Member member) {
        return Modifier.isPrivate(member.getModifiers()) || member.isSynthetic();
    }

    private static void methods() {
        Set<String> seen = new TreeSet<>();
        for (Method method : Swervewright.class.getDeclaredMethods()) {
            if (!isPrivate(method)) {
                C.dueTrue(method + " is public and no constant of the class", method.getModifiers() == Modifier.PUBLIC);
                seen.add(told(method));
            }
        }
        C.dueTrue("methods " + seen + ", due are " + FACE, seen.equals(FACE));
    }

    private static void fields() {
        Set<String> seen = new TreeSet<>();
        for (Field field : Swervewright.class.getDeclaredFields()) {
            int modifiers = field.getModifiers();
            C.dueTrue(field + " is final if it is static", !Modifier.isStatic(modifiers) || Modifier.isFinal(modifiers));
            if (!isPrivate(field)) {
                C.dueTrue(field + " is a constant", Modifier.isPublic(modifiers) && Modifier.isStatic(modifiers));
                C.dueTrue(field + " is an int", field.getType() == int.class);
                seen.add(field.getName());
            }
        }
        C.dueTrue("constants " + seen + ", due are " + CONSTANTS, seen.equals(CONSTANTS));
    }

    private static void constructors() {
        int seen = 0;
        for (Constructor<?> constructor : Swervewright.class.getDeclaredConstructors()) {
            if (!isPrivate(constructor)) {
                seen++;
                boolean isPublic = Modifier.isPublic(constructor.getModifiers());
                C.dueTrue("public, without parameters", isPublic && constructor.getParameterCount() == 0);
            }
        }
        C.due("constructors", seen, 1);
        C.dueTrue("final class", Modifier.isFinal(Swervewright.class.getModifiers()));
        C.dueTrue("without a package", Swervewright.class.getPackageName().isEmpty());
    }

    private static void classesInside() {
        Set<String> publicNames = new TreeSet<>();
        for (String method : FACE) {
            publicNames.add(method.substring(0, method.indexOf('(')));
        }
        Class<?>[] inside = Swervewright.class.getDeclaredClasses();
        C.dueTrue("some twelve classes", inside.length < 15);
        for (Class<?> type : inside) {
            int modifiers = type.getModifiers();
            C.dueTrue(type + " is private or package-visible", (modifiers & (Modifier.PUBLIC | Modifier.PROTECTED)) == 0);
            for (Method method : type.getDeclaredMethods()) {
                boolean isFaced = isPrivate(method) && publicNames.contains(method.getName()) && !method.isSynthetic();
                C.dueTrue(method + " has a name of its own", !isFaced);
                C.dueTrue(method + " has at most seven parameters", method.getParameterCount() <= 7);
            }
            for (Field field : type.getDeclaredFields()) {
                boolean isFinal = Modifier.isFinal(field.getModifiers());
                C.dueTrue(field + " is final if it is static", !Modifier.isStatic(field.getModifiers()) || isFinal);
            }
        }
    }

    private static void source() throws IOException {
        String source = Files.readString(Path.of("src/main/java/Swervewright.java"));
        for (String word : new String[] {"finally", "synchronized", "assert ", "java.util.Random", "Thread", "nanoTime",
            "currentTimeMillis", "getMessage", "::", "Exact(", "static {", "package "}) {
            C.dueTrue("the source does without " + word, !source.contains(word));
        }
        for (String line : source.split("\n")) {
            C.dueTrue("imports: " + line, !line.startsWith("import") || line.startsWith("import java.util."));
        }
        for (char sign : source.toCharArray()) {
            if (sign > 126) {
                C.dueTrue("plain signs, not " + (int) sign, false);
            }
        }
        machineExceptions(source);
    }

    /** Each constant, the constructor, and each method with its throws clause stand as in the document, in its order. */
    private static void documentsForm() throws IOException {
        String source = Files.readString(Path.of("src/main/java/Swervewright.java")).replaceAll("\\s+", " ");
        int before = -1;
        List<String> face = Doc.face();
        C.due("lines of the face", face.size(), 1 + 2 + 1 + FACE.size());
        for (String line : face) {
            String due = line.endsWith(");") || line.contains(" throws ") ? line.replace(";", " {") : line;
            int found = source.indexOf(due);
            C.dueTrue("the source has, behind what is ahead of it: " + due, found > before);
            before = found;
        }
        Map<String, String> headings = Doc.headings();
        C.due("headings", headings.size(), 4);
        for (Map.Entry<String, String> heading : headings.entrySet()) {
            String due = "// ---- " + heading.getValue() + " public ";
            int found = source.indexOf(due);
            C.dueTrue("the source has: " + due, found >= 0);
            String behind = source.substring(Math.max(found, 0) + due.length());
            C.dueTrue(due + " " + heading.getKey(), behind.matches("\\w+ " + heading.getKey() + "\\(.*"));
        }
    }

    /** No call is answered by catching what the machine throws by itself, by its name or by a class above it. */
    private static void machineExceptions(String source) {
        for (String name : new String[] {"ArrayIndexOutOfBoundsException", "NullPointerException", "ClassCastException",
            "NegativeArraySizeException", "ArrayStoreException", "Throwable", "Error ", "catch (Exception",
            "catch (RuntimeException"}) {
            C.dueTrue("the source does without " + name, !source.contains(name));
        }
    }
}
