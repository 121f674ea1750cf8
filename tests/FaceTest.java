import java.lang.reflect.Constructor;
import java.lang.reflect.Field;
import java.lang.reflect.Method;
import java.lang.reflect.Modifier;
import java.nio.file.Files;
import java.nio.file.Path;
import java.util.ArrayList;
import java.util.List;
import java.util.Set;
import java.util.TreeSet;
import java.util.regex.Matcher;
import java.util.regex.Pattern;

/** The public face, as the document has it, and those rules of LANGUAGE.md that can be seen from outside. */
public final class FaceTest {
    private static final Check CHECK = new Check("FaceTest");
    private static final Path DOCUMENT = Path.of("../shared/DOC.md");
    private static final Path SOURCE = Path.of("src/main/java/RowShutter.java");

    public static void main(String[] args) throws Exception {
        CHECK.due("BAD", RowShutter.BAD, -1);
        CHECK.due("STATE", RowShutter.STATE, -2);
        CHECK.due("FULL", RowShutter.FULL, -3);
        CHECK.due("NONE", RowShutter.NONE, -4);
        face();
        membersInside();
        classesInside();
        words();
        methodLengths();
        CHECK.finish();
    }

    private static String signature(Method m) {
        List<String> types = new ArrayList<>();
        for (Class<?> type : m.getParameterTypes()) {
            types.add(type.getName());
        }
        return m.getReturnType().getName() + " " + m.getName() + "(" + String.join(",", types) + ")";
    }

    private static void face() throws Exception {
        Set<String> due = new TreeSet<>();
        Matcher m = Pattern.compile("^    public (int|long) (\\w+)\\((.*)\\);$", Pattern.MULTILINE)
                .matcher(Files.readString(DOCUMENT));
        while (m.find()) {
            due.add(m.group(1) + " " + m.group(2) + "(" + m.group(3).replaceAll("int \\w+", "int").replace(" ", "") + ")");
        }
        Set<String> got = new TreeSet<>();
        for (Method method : RowShutter.class.getDeclaredMethods()) {
            if (!Modifier.isPrivate(method.getModifiers())) {
                got.add(signature(method));
            }
        }
        CHECK.due("methods of the document", due.size(), 36);
        CHECK.holds("the methods are " + got + ", due are " + due, got.equals(due));
        CHECK.holds("public and final", Modifier.isPublic(RowShutter.class.getModifiers())
                && Modifier.isFinal(RowShutter.class.getModifiers()));
        Constructor<?>[] constructors = RowShutter.class.getDeclaredConstructors();
        CHECK.holds("one public constructor without parameters", constructors.length == 1
                && Modifier.isPublic(constructors[0].getModifiers()) && constructors[0].getParameterCount() == 0);
    }

    private static void membersInside() {
        Set<String> publicNames = new TreeSet<>();
        for (Method method : RowShutter.class.getMethods()) {
            publicNames.add(method.getName());
        }
        for (Method method : RowShutter.class.getDeclaredMethods()) {
            CHECK.holds("the private method " + method.getName() + " bears a public name",
                    Modifier.isPublic(method.getModifiers()) || !publicNames.contains(method.getName()));
        }
        for (Field field : RowShutter.class.getDeclaredFields()) {
            CHECK.holds("the field " + field.getName() + " is no private one and no constant of the document",
                    Modifier.isPrivate(field.getModifiers()) || Set.of("BAD", "STATE", "FULL", "NONE").contains(field.getName()));
        }
    }

    private static void classesInside() {
        List<Class<?>> all = new ArrayList<>(List.of(RowShutter.class.getDeclaredClasses()));
        CHECK.holds("too many classes", all.size() < 12);
        for (Class<?> inside : all) {
            CHECK.holds(inside + " is not static", Modifier.isStatic(inside.getModifiers()));
            CHECK.holds(inside + " is public or protected",
                    !Modifier.isPublic(inside.getModifiers()) && !Modifier.isProtected(inside.getModifiers()));
        }
        all.add(RowShutter.class);
        for (Class<?> one : all) {
            int fields = 0;
            for (Field field : one.getDeclaredFields()) {
                boolean isStatic = Modifier.isStatic(field.getModifiers());
                fields += isStatic ? 0 : 1;
                CHECK.holds(field + " is static, but not final", !isStatic || Modifier.isFinal(field.getModifiers()));
            }
            CHECK.holds(one + " has " + fields + " fields", fields <= 20);
            for (Method method : one.getDeclaredMethods()) {
                CHECK.holds(method + " takes more than seven", method.getParameterCount() <= 7);
            }
        }
    }

    private static String bareSource() throws Exception {
        return Files.readString(SOURCE).replaceAll("(?s)/\\*.*?\\*/", "").replaceAll("//[^\n]*", "")
                .replaceAll("\"[^\"\n]*\"", "\"\"");
    }

    private static void words() throws Exception {
        String source = bareSource();
        String[] barred = {"throw", "throws", "try", "catch", "finally", "synchronized", "assert", "package", "Object",
            "hashCode", "toString", "System\\.(?!arraycopy)\\w+", "\\w+Exact", "Random", "Thread", "protected", "native",
            "volatile", "transient", "this\\)"};
        for (String word : barred) {
            CHECK.holds("the source has the word " + word, !Pattern.compile("\\b" + word).matcher(source).find());
        }
        CHECK.holds("a lambda or an arrow", !source.contains("->"));
        CHECK.holds("a method reference", !source.contains("::"));
        CHECK.holds("an @", !source.contains("@"));
        Matcher imports = Pattern.compile("import ([\\w.*]+);").matcher(source);
        while (imports.find()) {
            CHECK.holds("import of " + imports.group(1), imports.group(1).equals("java.util.Arrays"));
        }
        Matcher text = Pattern.compile("\"\" *\\+|\\+ *\"\"").matcher(source);
        CHECK.holds("texts joined by +", !text.find());
    }

    private static void methodLengths() throws Exception {
        int open = -1;
        List<String> lines = Files.readAllLines(SOURCE);
        for (int i = 0; i < lines.size(); i++) {
            String line = lines.get(i);
            String bare = line.stripLeading();
            if (bare.endsWith(") {") && !bare.matches("(if|for|while|switch|\\}|else).*")) {
                open = i;
            } else if (open >= 0 && line.matches(" {4}(?: {4})?\\}")) {
                CHECK.holds("a long method at line " + (open + 1), i - open < 60);
                open = -1;
            }
        }
    }
}
