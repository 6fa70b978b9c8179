import java.io.IOException;
import java.lang.reflect.Constructor;
import java.lang.reflect.Field;
import java.lang.reflect.Method;
import java.lang.reflect.Modifier;
import java.nio.charset.StandardCharsets;
import java.nio.file.Files;
import java.nio.file.Path;
import java.util.ArrayList;
import java.util.List;
import java.util.TreeSet;
import java.util.regex.Matcher;
import java.util.regex.Pattern;

/** Looks for what LANGUAGE.md leaves out, as far as the source and the compiled class tell it plainly. */
public final class RuleTests {
    private static final String FACE = "count(int) end(int) feed(int,int,int,int,int) heap(int) program() size() start() step(int) text(int)";
    private static int wrong = 0;

    private static void due(String rule, Object got, Object want) {
        if (!got.equals(want)) {
            wrong++;
            System.out.println(rule + ": there is " + got + ", due is " + want);
        }
    }

    public static void main(String[] args) throws IOException {
        String source = Files.readString(Path.of("src/main/java/LazyHouse.java"), StandardCharsets.ISO_8859_1);
        face();
        inside();
        words(bare(source));
        if (wrong == 0) {
            System.out.println("RuleTests: the rules are kept");
        }
        System.exit(wrong == 0 ? 0 : 1);
    }

    private static void face() {
        Class<LazyHouse> house = LazyHouse.class;
        due("the class", Modifier.toString(house.getModifiers()), "public final");
        TreeSet<String> methods = new TreeSet<>();
        for (Method method : house.getDeclaredMethods()) {
            if (!Modifier.isPrivate(method.getModifiers()) && !method.isSynthetic()) {
                List<String> types = new ArrayList<>();
                for (Class<?> type : method.getParameterTypes()) {
                    types.add(type.getName());
                }
                due(method.getName() + " answers", method.getReturnType().getName(), "int");
                methods.add(method.getName() + "(" + String.join(",", types) + ")");
            }
        }
        due("the face", String.join(" ", methods), FACE);
        for (Constructor<?> constructor : house.getDeclaredConstructors()) {
            due("the constructor", constructor.toString(), "public LazyHouse()");
        }
        for (Field field : house.getDeclaredFields()) {
            due("the field " + field.getName() + " is private", Modifier.isPrivate(field.getModifiers()), true);
        }
    }

    private static void inside() {
        Class<?>[] classes = LazyHouse.class.getDeclaredClasses();
        due("at most some twelve classes", classes.length <= 12, true);
        for (Class<?> inner : classes) {
            due(inner.getName() + " is static", Modifier.isStatic(inner.getModifiers()), true);
            int fields = 0;
            for (Field field : inner.getDeclaredFields()) {
                boolean constant = Modifier.isStatic(field.getModifiers());
                due("a static field is final: " + field, !constant || Modifier.isFinal(field.getModifiers()), true);
                fields += constant ? 0 : 1;
            }
            due("at most some twenty fields in " + inner.getName(), fields <= 20, true);
            for (Method method : inner.getDeclaredMethods()) {
                boolean known = (" " + FACE).contains(" " + method.getName() + "(");
                due("a name of the face: " + method, known, false);
                due("at most seven parameters: " + method, method.getParameterCount() <= 7, true);
            }
        }
    }

    /** The source without comments, texts and characters. */
    private static String bare(String source) {
        Matcher told = Pattern.compile("//[^\\n]*|/\\*.*?\\*/|\"([^\"\\\\]|\\\\.)*\"|'([^'\\\\]|\\\\.)'", Pattern.DOTALL).matcher(source);
        return told.replaceAll(" 0 ");
    }

    private static void words(String bare) {
        String[] banned = {
            "throw", "throws", "try", "catch", "finally", "synchronized", "assert", "package", "import", "instanceof", "equals",
            "hashCode", "toString", "float", "double", "Object", "System", "Thread", "Random", "volatile", "native", "goto",
        };
        for (String word : banned) {
            due("the word " + word, Pattern.compile("\\b" + word + "\\b").matcher(bare).find(), false);
        }
        due("a lambda", bare.contains("->"), false);
        due("a method reference", bare.contains("::"), false);
        due("a static block", Pattern.compile("static\\s*\\{").matcher(bare).find(), false);
        due("an endless loop", Pattern.compile("while\\s*\\(\\s*true|for\\s*\\(;;").matcher(bare).find(), false);
    }
}
