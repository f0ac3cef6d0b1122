import java.io.IOException;
import java.lang.reflect.Constructor;
import java.lang.reflect.Field;
import java.lang.reflect.Method;
import java.lang.reflect.Modifier;
import java.nio.file.Files;
import java.nio.file.Path;
import java.util.Arrays;
import java.util.TreeSet;
import java.util.regex.Matcher;
import java.util.regex.Pattern;

/** The face is just the document's, and the file keeps to what can be seen of LANGUAGE.md in its text. */
public final class SaleRoundsFaceTest {
    private static final String[] FACE = {
        "int feed(int, int, int, int, int)", "int book(int)", "int fault(int)", "int named(int, int)", "int look(int, int)",
        "int firm(int, int)", "int sell(int, int, int, int, int, int, int)", "int undo()", "int pay(int, int)",
        "int rounds(int, int, int)", "int round(int, int, int, int, int)", "int judge(int, int, long)",
        "long takes(int, int, int)", "int flow(int, int)", "int luck(int, int, int, int, int)", "int signs(int, int, int, int)",
        "int knew(int, int, int, int, int)", "int hands()", "int lacking(int)", "int stop(int)", "int fewest(int, int, int, long)",
        "int rule(int)", "int burden(int)", "long starve(int, int, int, int, int)", "int count(int)"};
    private static int wrong = 0;

    private static void must(boolean fine, String what) {
        if (!fine) {
            wrong++;
            System.out.println("not so: " + what);
        }
    }

    private static String told(Method m) {
        StringBuilder types = new StringBuilder();
        for (Class<?> type : m.getParameterTypes()) {
            types.append(types.length() == 0 ? "" : ", ").append(type.getSimpleName());
        }
        return m.getReturnType().getSimpleName() + " " + m.getName() + "(" + types + ")";
    }

    private static void face() throws ReflectiveOperationException {
        TreeSet<String> seen = new TreeSet<>();
        TreeSet<String> names = new TreeSet<>();
        for (Method m : SaleRounds.class.getDeclaredMethods()) {
            if (Modifier.isPublic(m.getModifiers())) {
                seen.add(told(m));
                names.add(m.getName());
                must(!Modifier.isStatic(m.getModifiers()), m + " is static");
            } else {
                must(Modifier.isPrivate(m.getModifiers()), m + " is private");
            }
        }
        must(seen.equals(new TreeSet<>(Arrays.asList(FACE))), "the methods are the document's: " + seen);
        for (Class<?> inner : SaleRounds.class.getDeclaredClasses()) {
            must(Modifier.isStatic(inner.getModifiers()) && !Modifier.isPublic(inner.getModifiers()), inner + " is static and inside");
            for (Method m : inner.getDeclaredMethods()) {
                must(!names.contains(m.getName()), m + " bears the name of a public one");
                must(m.getParameterCount() <= 7, m + " takes seven at most");
            }
            must(Arrays.stream(inner.getDeclaredFields()).filter(f -> !Modifier.isStatic(f.getModifiers())).count() <= 20, inner + " has few fields");
        }
        for (Field f : SaleRounds.class.getDeclaredFields()) {
            must(Modifier.isPrivate(f.getModifiers()) || f.getName().equals("NONE"), f + " is private");
            must(!Modifier.isStatic(f.getModifiers()) || Modifier.isFinal(f.getModifiers()), f + " is final");
        }
        must(SaleRounds.class.getField("NONE").getInt(null) == -1, "NONE is -1");
        must(Modifier.isFinal(SaleRounds.class.getModifiers()), "the class is final");
        Constructor<?>[] made = SaleRounds.class.getDeclaredConstructors();
        must(made.length == 1 && made[0].getParameterCount() == 0 && Modifier.isPublic(made[0].getModifiers()), "one constructor");
        Method look = SaleRounds.class.getMethod("look", int.class, int.class);
        must(look.getExceptionTypes().length == 2, "look tells what it throws");
    }

    private static void text() throws IOException {
        String source = Files.readString(Path.of("src/main/java/SaleRounds.java"));
        String bare = source.replaceAll("(?s)/\\*.*?\\*/", "").replaceAll("//[^\n]*", "").replaceAll("\"[^\"]*\"", "\"\"");
        for (String word : new String[] {"try", "catch", "finally", "synchronized", "assert", "protected", "package", "instanceof", "System", "Object", "float", "double", "equals", "hashCode", "toString"}) {
            must(!Pattern.compile("\\b" + word + "\\b").matcher(bare).find(), "no " + word);
        }
        must(!bare.contains("->") && !bare.contains("::") && !bare.contains("@"), "no lambda, method reference, annotation");
        must(!bare.contains("static {"), "no static block");
        Matcher imports = Pattern.compile("import ([^;]*);").matcher(bare);
        while (imports.find()) {
            must(imports.group(1).equals("java.util.NoSuchElementException"), "no import of " + imports.group(1));
        }
        Matcher calls = Pattern.compile("\\b(Math|Integer|Long)\\.(\\w+)").matcher(bare);
        while (calls.find()) {
            must(calls.group(2).matches("max|min|bitCount|MIN_VALUE"), "no " + calls.group());
        }
        must(bare.chars().allMatch(c -> c < 127), "plain signs alone");
    }

    public static void main(String[] args) throws Exception {
        face();
        text();
        System.out.println(wrong == 0 ? "the face is the document's" : wrong + " things are not so");
        if (wrong != 0) {
            System.exit(1);
        }
    }
}
