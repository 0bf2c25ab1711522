import java.lang.reflect.Constructor;
import java.lang.reflect.Field;
import java.lang.reflect.Method;
import java.lang.reflect.Modifier;
import java.nio.file.Files;
import java.nio.file.Path;
import java.util.ArrayList;
import java.util.List;
import java.util.Set;
import java.util.TreeSet;
import java.util.regex.Matcher;
import java.util.regex.Pattern;

/** The public face of the document, and what of the language's rules can be seen from the source. */
final class FaceTest {
    private static final Path SOURCE = Path.of("src/main/java/HookHours.java");
    private static final Set<String> METHODS = Set.of("expect(int,int)", "fund(int,int)", "bid(int,int,int,int,int)",
        "withdraw(int,int,int)", "award(int,int)", "trade(int,int,int,int,int)", "done(int)", "nextDay()",
        "type(char)", "clearText()", "perform()", "stopped(int)", "undo()", "keep()", "restore()", "firm(int,int)",
        "slot(int,int,int)", "wouldCost(int,int,int,int,int)", "heaviest(int,int)", "wind(int)",
        "cheapest(int,int)", "count(int)");
    private static final Due due = new Due();

    public static void main(String[] args) throws Exception {
        due.part("the face");
        constants();
        members();
        names();
        due.part("the language");
        String code = codeAlone(Files.readString(SOURCE));
        noForbiddenWords(code);
        staticFieldsAreFinal();
        shapesAreSmall();
        due.end();
    }

    private static void constants() {
        due.is("UNKNOWN", HookHours.UNKNOWN, -1);
        due.is("BAD_VALUE", HookHours.BAD_VALUE, -2);
        due.is("FULL", HookHours.FULL, -3);
        due.is("NOT_POSSIBLE", HookHours.NOT_POSSIBLE, -4);
        due.is("NONE", HookHours.NONE, -5);
        due.is("TOO_POOR", HookHours.TOO_POOR, -6);
    }

    private static void members() {
        int type = HookHours.class.getModifiers();
        due.holds("the class is public and final", Modifier.isPublic(type) && Modifier.isFinal(type));
        Set<String> methods = new TreeSet<>();
        for (Method method : HookHours.class.getDeclaredMethods()) {
            if (!Modifier.isPrivate(method.getModifiers())) {
                due.holds(method + " is public", Modifier.isPublic(method.getModifiers()));
                due.holds(method + " answers an int", method.getReturnType() == int.class);
                methods.add(signature(method));
            }
        }
        due.holds("the methods are those of the document: " + methods, methods.equals(new TreeSet<>(METHODS)));
        Constructor<?>[] constructors = HookHours.class.getDeclaredConstructors();
        due.holds("one public constructor", constructors.length == 1 && constructors[0].getParameterCount() == 0
            && Modifier.isPublic(constructors[0].getModifiers()));
        int open = 0;
        for (Field field : HookHours.class.getDeclaredFields()) {
            open += Modifier.isPrivate(field.getModifiers()) ? 0 : 1;
        }
        due.is("open fields", open, 6);
    }

    private static String signature(Method method) {
        List<String> types = new ArrayList<>();
        for (Class<?> type : method.getParameterTypes()) {
            types.add(type.getName());
        }
        return method.getName() + "(" + String.join(",", types) + ")";
    }

    private static void names() {
        Set<String> open = new TreeSet<>();
        for (String method : METHODS) {
            open.add(method.substring(0, method.indexOf('(')));
        }
        for (Class<?> inside : HookHours.class.getDeclaredClasses()) {
            due.holds(inside + " is static", Modifier.isStatic(inside.getModifiers()));
            due.holds(inside + " is not public", !Modifier.isPublic(inside.getModifiers()));
            for (Method method : inside.getDeclaredMethods()) {
                due.holds(method + " has a name of its own", !open.contains(method.getName()));
            }
        }
    }

    private static String codeAlone(String source) {
        return source.replaceAll("(?s)/\\*.*?\\*/", " ").replaceAll("//[^\n]*", " ")
            .replaceAll("'(\\\\.|[^'\\\\])'", "0");
    }

    private static void noForbiddenWords(String code) {
        String words = "throw|throws|try|catch|finally|synchronized|assert|import|package|protected|volatile|transient"
            + "|native|equals|hashCode|toString|Object|System\\.(?!arraycopy)|Thread|Exact|Random|Date|Class|enum\\s*\\{"
            + "|float|double|goto|instanceof";
        Matcher word = Pattern.compile("\\b(" + words + ")\\b|->|::|\"|@|\\?\\s*>").matcher(code);
        while (word.find()) {
            due.holds("the source has no '" + word.group() + "'", false);
        }
        Matcher bare = Pattern.compile("\\bwhile\\s*\\(\\s*true|for\\s*\\(\\s*;\\s*;").matcher(code);
        due.holds("every loop has an end", !bare.find());
    }

    private static void staticFieldsAreFinal() {
        List<Class<?>> all = new ArrayList<>(List.of(HookHours.class.getDeclaredClasses()));
        all.add(HookHours.class);
        for (Class<?> type : all) {
            for (Field field : type.getDeclaredFields()) {
                if (Modifier.isStatic(field.getModifiers())) {
                    due.holds(field + " is final", Modifier.isFinal(field.getModifiers()));
                    due.holds(field + " is a constant", field.getType() == int.class || field.getType() == int[].class);
                }
            }
        }
    }

    private static void shapesAreSmall() throws Exception {
        List<Class<?>> all = new ArrayList<>(List.of(HookHours.class.getDeclaredClasses()));
        all.add(HookHours.class);
        due.holds("some twelve classes", all.size() <= 12);
        for (Class<?> type : all) {
            int fields = 0;
            for (Field field : type.getDeclaredFields()) {
                fields += Modifier.isStatic(field.getModifiers()) ? 0 : 1;
            }
            due.holds(type + " has some twenty fields", fields <= 20);
            for (Method method : type.getDeclaredMethods()) {
                due.holds(method + " has at most seven parameters", method.getParameterCount() <= 7);
            }
        }
        int lines = 0;
        for (String line : Files.readAllLines(SOURCE)) {
            lines = line.equals("    }") || line.equals("        }") ? 0 : lines + 1;
            due.holds("methods of some sixty lines, at: " + line, lines <= 60);
        }
    }
}
