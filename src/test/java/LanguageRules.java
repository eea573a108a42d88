import java.io.DataInputStream;
import java.io.IOException;
import java.io.InputStream;
import java.lang.reflect.Constructor;
import java.lang.reflect.Executable;
import java.lang.reflect.Field;
import java.lang.reflect.Method;
import java.lang.reflect.Modifier;
import java.nio.file.Files;
import java.nio.file.Path;
import java.util.ArrayList;
import java.util.Arrays;
import java.util.HashSet;
import java.util.List;
import java.util.Set;
import java.util.TreeSet;

/** The face, as the document writes it, and those rules of LANGUAGE.md that can be seen in the compiled classes. */
public final class LanguageRules {
    private static final String SOURCE = "src/main/java/PaddockFields.java";
    private static final int LONGEST_METHOD = 60;
    private static final Set<String> LIBRARY = Set.of("java/lang/Object.<init>", "java/lang/Long.bitCount",
            "java/lang/IllegalStateException.<init>", "java/lang/IllegalArgumentException.<init>",
            "java/lang/IndexOutOfBoundsException.<init>");

    private static final Set<String> CONSTANTS = Set.of("int", "long", "boolean", "char", "java.lang.String");

    private LanguageRules() {
    }

    public static void main(String[] args) throws IOException {
        face();
        List<Class<?>> classes = new ArrayList<>(Arrays.asList(PaddockFields.class.getDeclaredClasses()));
        Check.due("twelve classes at most", true, () -> classes.size() < 12);
        for (Class<?> inner : classes) {
            boolean hidden = !Modifier.isPublic(inner.getModifiers()) && !Modifier.isProtected(inner.getModifiers());
            Check.due(inner + " is hidden and static", true, () -> hidden && Modifier.isStatic(inner.getModifiers()));
        }
        classes.add(PaddockFields.class);
        for (Class<?> one : classes) {
            members(one);
            Check.due("library of " + one, "[]", () -> foreignCalls(one));
        }
        source(Files.readAllLines(Path.of(SOURCE)));
        Check.end("LanguageRules");
    }

    private static void face() throws IOException {
        Set<String> wanted = new TreeSet<>();
        boolean inside = false;
        for (String line : Files.readAllLines(Path.of("../shared/DOC.md"))) {
            inside = inside ? !line.startsWith("}") : line.startsWith("public final class PaddockFields");
            if (inside && line.startsWith("    public ")) {
                wanted.add(line.strip().replaceAll(" [a-z]+(?=[,)])", "").replaceAll("[;,]", " ").replaceAll(" +", " ").strip());
            }
        }
        Set<String> got = new TreeSet<>();
        Set<String> names = new HashSet<>();
        for (Constructor<?> made : PaddockFields.class.getDeclaredConstructors()) {
            got.add(faceOf(made, "PaddockFields"));
        }
        for (Method method : PaddockFields.class.getDeclaredMethods()) {
            if (!Modifier.isPrivate(method.getModifiers())) {
                got.add(faceOf(method, method.getReturnType() + " " + method.getName()));
                names.add(method.getName());
            }
        }
        Check.due("the face", wanted, () -> got);
        Check.due("a member for each promise", 45, () -> wanted.size());
        for (Method method : PaddockFields.class.getDeclaredMethods()) {
            boolean twice = Modifier.isPrivate(method.getModifiers()) && names.contains(method.getName());
            Check.due("a private method named " + method.getName(), false, () -> twice);
        }
        int modifiers = PaddockFields.class.getModifiers();
        Check.due("public and final", true, () -> Modifier.isPublic(modifiers) && Modifier.isFinal(modifiers));
    }

    private static String faceOf(Executable member, String name) {
        StringBuilder text = new StringBuilder("public " + name + "(");
        for (Class<?> type : member.getParameterTypes()) {
            text.append(text.toString().endsWith("(") ? "" : " ").append(type.getName());
        }
        text.append(")");
        for (Class<?> thrown : member.getExceptionTypes()) {
            text.append(text.toString().contains("throws") ? " " : " throws ").append(thrown.getSimpleName());
        }
        return text.toString();
    }

    private static void members(Class<?> one) {
        int own = 0;
        for (Field field : one.getDeclaredFields()) {
            boolean constant = Modifier.isStatic(field.getModifiers());
            own += constant ? 0 : 1;
            Check.due(field + " is final if static", true, () -> !constant || Modifier.isFinal(field.getModifiers()));
            Check.due(field + " is of a constant's type", true,
                    () -> !constant || CONSTANTS.contains(field.getType().getName()));
            Check.due(field + " is private", true, () -> Modifier.isPrivate(field.getModifiers()));
        }
        int fields = own;
        Check.due("fields of " + one, true, () -> fields <= 20);
        for (Method method : one.getDeclaredMethods()) {
            Check.due(method + " has seven parameters at most", true, () -> method.getParameterCount() <= 7);
        }
    }

    private static void source(List<String> lines) {
        String[] words = {"package ", "import ", "->", "::", "\\bfinally\\b", "\\bcatch\\b", "\\btry\\b",
            "\\bsynchronized\\b", "\\bassert\\b", "\\bstatic \\{", "\\bprotected\\b", "\\binstanceof\\b"};
        int begin = 0;
        for (int i = 0; i < lines.size(); i++) {
            String line = lines.get(i);
            String code = line.strip().startsWith("*") || line.strip().startsWith("/") ? "" : line;
            for (String word : words) {
                Check.due("line " + (i + 1) + " has " + word, false, () -> code.matches(".*" + word + ".*"));
            }
            Check.due("signs of line " + (i + 1), true, () -> line.chars().allMatch(c -> c >= 32 && c < 127));
            if (line.matches("( {4}| {8})[a-zA-Z].*[(].*") && !line.endsWith(";")) {
                begin = i;
            }
            int length = i - begin;
            Check.due("method's length at line " + (i + 1), true,
                    () -> !line.matches(" {4}}| {8}}") || length <= LONGEST_METHOD);
        }
    }

    /** Methods and fields of other classes that a class names, but for those of the language's part of the library. */
    private static Set<String> foreignCalls(Class<?> one) {
        Set<String> foreign = new TreeSet<>();
        for (String name : memberRefs(one)) {
            if (!name.startsWith("PaddockFields") && !LIBRARY.contains(name) && !name.startsWith("[")) {
                foreign.add(name);
            }
        }
        return foreign;
    }

    private static List<String> memberRefs(Class<?> one) {
        try (InputStream file = one.getResourceAsStream("/" + one.getName() + ".class");
                DataInputStream in = new DataInputStream(file)) {
            in.skipBytes(8);
            int count = in.readUnsignedShort();
            Object[] pool = new Object[count];
            for (int i = 1; i < count; i++) {
                int tag = in.readUnsignedByte();
                pool[i] = entry(tag, in);
                i += tag == 5 || tag == 6 ? 1 : 0;
            }
            return names(pool);
        } catch (IOException e) {
            throw new IllegalStateException(e);
        }
    }

    private static Object entry(int tag, DataInputStream in) throws IOException {
        switch (tag) {
            case 1:
                return in.readUTF();
            case 3, 4:
                return in.readInt();
            case 5, 6:
                return in.readLong();
            case 7, 8, 16, 19, 20:
                return new int[] {tag, in.readUnsignedShort(), 0};
            case 15:
                in.readUnsignedByte();
                return new int[] {tag, in.readUnsignedShort(), 0};
            default:
                return new int[] {tag, in.readUnsignedShort(), in.readUnsignedShort()};
        }
    }

    private static List<String> names(Object[] pool) {
        List<String> names = new ArrayList<>();
        for (Object entry : pool) {
            if (entry instanceof int[] ref && ref[0] >= 9 && ref[0] <= 11) {
                int[] owner = (int[]) pool[ref[1]];
                int[] member = (int[]) pool[ref[2]];
                names.add(pool[owner[1]] + "." + pool[member[1]]);
            }
            if (entry instanceof int[] ref && (ref[0] == 17 || ref[0] == 18)) {
                names.add("invokedynamic");
            }
        }
        return names;
    }
}
