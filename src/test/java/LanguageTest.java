import java.io.IOException;
import java.lang.reflect.Constructor;
import java.lang.reflect.Field;
import java.lang.reflect.Method;
import java.lang.reflect.Modifier;
import java.nio.file.Files;
import java.nio.file.Path;
import java.util.ArrayList;
import java.util.Arrays;
import java.util.HashSet;
import java.util.List;
import java.util.Set;
import java.util.TreeSet;
import java.util.regex.Matcher;
import java.util.regex.Pattern;

/** The face of the document, and what of LANGUAGE.md can be seen by reflection or in the source's words. */
public final class LanguageTest {
    private static final Path SOURCE = Path.of("src/main/java/OutlineDesk.java");
    private static final int MOST_CLASSES = 12;
    private static final int MOST_FIELDS = 20;
    private static final int MOST_PARAMETERS = 7;
    private static final int MOST_LINES = 60;

    private static final String FACE = """
            int insert(int,int,int) Index Argument Unsupported
            int remove(int) Index
            void move(int,int,int) Index State Argument Unsupported
            void promote(int) Index State
            void demote(int) Index State Unsupported
            void title(int,int) Index Argument
            int state(int,int) Index Argument Unsupported
            void rank(int,int) Index Argument
            void tag(int,int,boolean) Index Argument
            void date(int,int,int,int,int,int) Index Argument
            void minutes(int,int,int) Index Argument
            void fold(int,boolean) Index
            void sort(int,int) Index Argument
            void open() State
            int close() State
            boolean undo() State
            boolean redo() State
            int steps(int) Argument
            int today(int) Argument
            int day(int,int,int) Argument
            int calendar(int,int) Argument
            int match(int,int,int,int)
            int agenda(int,int)
            int found(int,int) Index Argument
            int line(int)
            int child(int,int) Index
            int sum(int,int) Index Argument
            int told(int,int) Index Argument
            int about(int) Argument
            """;

    private static final String[] FORBIDDEN = {
        "^(?!\\s*(case|default)\\b).*->", "::", "\\bfinally\\b", "\\bsynchronized\\b", "\\bassert\\b", "\\bpackage\\b", "\\bvolatile\\b",
        "\\bnative\\b", "\\bstatic\\s*\\{", "Exact\\(", "\\bSystem\\.(?!arraycopy)", "\\bMath\\.(?!max|min|abs|floorDiv|floorMod)",
        "\\bArrays\\.(?!copyOf|copyOfRange|fill)", "\\bhashCode\\b", "\\bRandom\\b", "\\bObject\\b",
        "\\bwhile\\s*\\(true\\)", "for\\s*\\(;;", "^import (?!java\\.util\\.(Arrays|ArrayList|List);)",
    };

    private static final Check CHECK = new Check();

    private static String shortName(Class<?> exception) {
        return exception.getSimpleName().replaceAll("(OutOfBounds|Operation)?Exception$", "").replaceAll("^Illegal", "");
    }

    private static String told(Method method) {
        StringBuilder text = new StringBuilder(method.getReturnType() + " " + method.getName() + "(");
        for (int i = 0; i < method.getParameterCount(); i++) {
            text.append(i == 0 ? "" : ",").append(method.getParameterTypes()[i]);
        }
        text.append(')');
        for (Class<?> exception : method.getExceptionTypes()) {
            text.append(' ').append(shortName(exception));
        }
        return text.toString();
    }

    private static void face() {
        Set<String> methods = new TreeSet<>();
        Set<String> publicNames = new HashSet<>();
        for (Method method : OutlineDesk.class.getDeclaredMethods()) {
            if (!Modifier.isPrivate(method.getModifiers())) {
                methods.add(told(method));
                publicNames.add(method.getName());
            }
        }
        CHECK.due("the methods", methods.toString(), new TreeSet<>(Arrays.asList(FACE.split("\n"))).toString());
        for (Method method : OutlineDesk.class.getDeclaredMethods()) {
            if (Modifier.isPrivate(method.getModifiers()) && publicNames.contains(method.getName())) {
                CHECK.fault("a private method bears the public name " + method.getName());
            }
        }
        Set<String> constants = new TreeSet<>();
        for (Field field : OutlineDesk.class.getDeclaredFields()) {
            if (!Modifier.isPrivate(field.getModifiers())) {
                constants.add(Modifier.toString(field.getModifiers()) + " " + field.getType() + " " + field.getName());
            }
        }
        CHECK.due("the constants", constants.toString(), "[public static final int NONE, public static final int ROOT]");
        Constructor<?>[] constructors = OutlineDesk.class.getDeclaredConstructors();
        CHECK.due("constructors", constructors.length, 1);
        CHECK.due("its parameters", constructors[0].getParameterCount(), 0);
        CHECK.due("the class", Modifier.toString(OutlineDesk.class.getModifiers()), "public final");
    }

    private static void classes() {
        List<Class<?>> all = new ArrayList<>(List.of(OutlineDesk.class.getDeclaredClasses()));
        for (Class<?> inside : all) {
            if (!Modifier.isStatic(inside.getModifiers()) || Modifier.isPublic(inside.getModifiers())) {
                CHECK.fault(inside + " is not static, or public");
            }
        }
        all.add(OutlineDesk.class);
        if (all.size() > MOST_CLASSES) {
            CHECK.fault("too many classes: " + all.size());
        }
        for (Class<?> one : all) {
            members(one);
        }
    }

    private static void members(Class<?> one) {
        int fields = 0;
        for (Field field : one.getDeclaredFields()) {
            boolean isStatic = Modifier.isStatic(field.getModifiers());
            fields += isStatic ? 0 : 1;
            if (isStatic && !Modifier.isFinal(field.getModifiers())) {
                CHECK.fault(field + " is static and not final");
            }
        }
        if (fields > MOST_FIELDS) {
            CHECK.fault(one + " has too many fields: " + fields);
        }
        for (Method method : one.getDeclaredMethods()) {
            if (method.getParameterCount() > MOST_PARAMETERS) {
                CHECK.fault(method + " has too many parameters");
            }
        }
    }

    private static void words(String source) {
        String code = source.replaceAll("(?s)/\\*.*?\\*/", "").replaceAll("//[^\n]*", "");
        for (String forbidden : FORBIDDEN) {
            Matcher matcher = Pattern.compile(forbidden, Pattern.MULTILINE).matcher(code);
            if (matcher.find()) {
                CHECK.fault("the source has " + matcher.group());
            }
        }
        for (int i = 0; i < source.length(); i++) {
            if (source.charAt(i) > 255) {
                CHECK.fault("the source has the character " + (int) source.charAt(i));
            }
        }
    }

    /** A method begins at a line that ends with an opening bracket and ends at the closing one of the same indent. */
    private static void lengths(String source) {
        Matcher matcher = Pattern.compile("(?ms)^( {4}| {8})[a-zA-Z][^\n;]*\\([^{;]*\\{$.*?^\\1\\}").matcher(source);
        int methods = 0;
        while (matcher.find()) {
            methods++;
            long lines = matcher.group().lines().count();
            if (lines > MOST_LINES) {
                CHECK.fault("a method of " + lines + " lines: " + matcher.group().lines().findFirst().orElse(""));
            }
        }
        if (methods < OutlineDesk.class.getMethods().length) {
            CHECK.fault("only " + methods + " methods were measured");
        }
    }

    public static void main(String[] args) throws IOException {
        String source = Files.readString(SOURCE);
        face();
        classes();
        words(source);
        lengths(source);
        CHECK.end("LanguageTest");
    }
}
