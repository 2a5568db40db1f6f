import java.io.IOException;
import java.lang.reflect.Constructor;
import java.lang.reflect.Field;
import java.lang.reflect.Method;
import java.lang.reflect.Modifier;
import java.nio.file.Files;
import java.nio.file.Path;
import java.util.Arrays;
import java.util.List;
import java.util.Set;
import java.util.TreeSet;
import java.util.regex.Matcher;
import java.util.regex.Pattern;

/** The face by reflection, and the rules of LANGUAGE.md that a look at the text can find broken. */
public final class LanguageTest {
    private static final Path SOURCE = Path.of("src/main/java/VillageWaves.java");
    private static final String[] FACE = {
        "int appendText(int) throws IllegalStateException",
        "int truncateText(int) throws IllegalArgumentException",
        "int load()", "int errorCode()", "int errorPosition()",
        "int addHouse(int,int,int,int,int) throws IllegalArgumentException,IllegalStateException",
        "void setQuiet(int,int,int) throws IndexOutOfBoundsException,IllegalArgumentException",
        "int charge(int,int) throws IndexOutOfBoundsException,IllegalArgumentException",
        "int set(int,int) throws IllegalArgumentException",
        "void seed(int) throws IllegalArgumentException",
        "int count(int) throws IllegalArgumentException",
        "int house(int,int) throws IndexOutOfBoundsException,IllegalArgumentException",
        "int entry(int,int,int) throws IndexOutOfBoundsException,IllegalArgumentException",
        "int news(int,int) throws IndexOutOfBoundsException,IllegalArgumentException",
        "int source(int,int) throws IndexOutOfBoundsException",
        "int owes(int,int) throws IndexOutOfBoundsException",
        "int spoken(int,int) throws IllegalArgumentException",
        "int tell(int,int) throws IndexOutOfBoundsException,IllegalArgumentException",
        "int correct(int,int,int) throws IndexOutOfBoundsException,IllegalArgumentException",
        "int run(int) throws IllegalArgumentException",
        "int wishes()", "int next()",
        "double chance(int) throws IndexOutOfBoundsException",
        "int near(int,int) throws IndexOutOfBoundsException",
        "int hops(int,int) throws IndexOutOfBoundsException",
        "int overlap(int,int) throws IndexOutOfBoundsException",
        "float meanBattery()",
        "int reached(int,int,int) throws IndexOutOfBoundsException,IllegalArgumentException",
        "int correctedIn(int,int) throws IndexOutOfBoundsException,IllegalArgumentException",
        "int ahead(int,int) throws IllegalArgumentException",
        "int bestAuthor(int) throws IllegalArgumentException",
        "void save(int) throws IllegalArgumentException",
        "void restore(int) throws IllegalArgumentException,IllegalStateException"};
    private static final String[] BANNED = {
        "try", "catch", "finally", "synchronized", "assert", "yield", "instanceof", "var", "package",
        "record", "protected", "volatile", "transient", "native", "Thread", "Object", "System\\.(?!arraycopy)",
        "hashCode", "toString", "->", "::", "\\w+Exact"};

    private static int wrong = 0;

    public static void main(String[] args) throws IOException {
        face();
        String code = withoutComments(Files.readString(SOURCE));
        words(code);
        lengths(code);
        for (Class<?> inner : VillageWaves.class.getDeclaredClasses()) {
            innerClass(inner);
        }
        System.out.println(wrong == 0 ? "the face and the rules hold" : wrong + " faults of the face and the rules");
        if (wrong != 0) {
            System.exit(1);
        }
    }

    private static void due(boolean holds, String fault) {
        if (!holds) {
            wrong++;
            System.out.println(fault);
        }
    }

    private static void face() {
        Class<?> type = VillageWaves.class;
        Set<String> due = new TreeSet<>(Arrays.asList(FACE));
        Set<String> got = new TreeSet<>();
        Set<String> names = new TreeSet<>();
        for (Method method : type.getDeclaredMethods()) {
            if (!Modifier.isPrivate(method.getModifiers())) {
                got.add(signature(method));
                names.add(method.getName());
                due(Modifier.toString(method.getModifiers()).equals("public"), method + " is not plainly public");
            }
        }
        due(got.equals(due), "the methods are " + got + ", due are " + due);
        for (Method method : type.getDeclaredMethods()) {
            due(!Modifier.isPrivate(method.getModifiers()) || !names.contains(method.getName()),
                    "a private method bears the name of a public one: " + method);
        }
        due(Modifier.toString(type.getModifiers()).equals("public final"), "the class is not public and final");
        Constructor<?>[] made = type.getDeclaredConstructors();
        due(made.length == 1 && Modifier.isPublic(made[0].getModifiers()) && made[0].getParameterCount() == 0,
                "the constructor is not the face's");
        for (Field field : type.getDeclaredFields()) {
            boolean isFace = field.getName().equals("NONE");
            String modifiers = Modifier.toString(field.getModifiers());
            due(isFace ? modifiers.equals("public static final") : modifiers.startsWith("private"), "field " + field);
        }
        fields(type);
    }

    private static String signature(Method method) {
        StringBuilder text = new StringBuilder();
        text.append(method.getReturnType()).append(' ').append(method.getName()).append('(');
        String comma = "";
        for (Class<?> parameter : method.getParameterTypes()) {
            text.append(comma).append(parameter);
            comma = ",";
        }
        text.append(')');
        comma = " throws ";
        for (Class<?> exception : method.getExceptionTypes()) {
            text.append(comma).append(exception.getSimpleName());
            comma = ",";
        }
        return text.toString();
    }

    private static void innerClass(Class<?> inner) {
        due(Modifier.isStatic(inner.getModifiers()) && Modifier.isPrivate(inner.getModifiers()), inner + " is not private and static");
        fields(inner);
        for (Method method : inner.getDeclaredMethods()) {
            due(method.getParameterCount() <= 7, method + " takes too many parameters");
        }
    }

    private static void fields(Class<?> type) {
        int own = 0;
        for (Field field : type.getDeclaredFields()) {
            boolean isStatic = Modifier.isStatic(field.getModifiers());
            due(!isStatic || Modifier.isFinal(field.getModifiers()), "static and not final: " + field);
            own += isStatic ? 0 : 1;
        }
        due(own <= 20, type + " has " + own + " fields");
    }

    private static String withoutComments(String text) {
        return text.replaceAll("(?s)/\\*.*?\\*/", "").replaceAll("//[^\n]*", "");
    }

    private static void words(String code) {
        for (String word : BANNED) {
            String pattern = word.matches("\\W+") ? word : "\\b" + word + (word.endsWith(")") ? "" : "\\b");
            due(!Pattern.compile(pattern).matcher(code).find(), "the text has " + word);
        }
        Matcher imports = Pattern.compile("import ([^;]+);").matcher(code);
        while (imports.find()) {
            due(imports.group(1).equals("java.util.Arrays"), "import of " + imports.group(1));
        }
        Matcher made = Pattern.compile("new (\\w+)").matcher(code);
        List<String> allowed = List.of("Village", "Text", "Reader", "Row", "Homes", "Tidings", "Entries", "Journal", "int",
                "IllegalArgumentException", "IllegalStateException", "IndexOutOfBoundsException");
        while (made.find()) {
            due(allowed.contains(made.group(1)), "new " + made.group(1));
        }
        Matcher index = Pattern.compile("(\\w+)\\[(\\w+)\\]").matcher(code);
        while (index.find()) {
            due(List.of("cells", "elements").contains(index.group(1)), "an index outside the tested ones: " + index.group());
        }
        due(Pattern.compile("\\bclass\\b").matcher(code).results().count() <= 12, "too many classes");
    }

    /** A method begins at a line that ends in { and has a (, not deeper than two classes. */
    private static void lengths(String code) {
        String[] lines = code.split("\n");
        for (int first = 0; first < lines.length; first++) {
            Matcher start = Pattern.compile("^( {4}| {8})\\w[^=;]*$").matcher(lines[first]);
            if (!start.matches() || !lines[first].contains("(")) {
                continue;
            }
            int last = first;
            while (last < lines.length - 1 && !lines[last].equals(start.group(1) + "}")) {
                last++;
            }
            due(last - first < 60, "a long method: " + lines[first].trim());
        }
    }
}
