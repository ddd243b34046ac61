import java.io.IOException;
import java.lang.reflect.Constructor;
import java.lang.reflect.Field;
import java.lang.reflect.Method;
import java.lang.reflect.Modifier;
import java.nio.file.Files;
import java.nio.file.Path;
import java.util.Arrays;
import java.util.TreeSet;

/** The class shows the document's face and nothing else, and keeps to those rules of LANGUAGE.md that can be seen from outside. */
public final class FaceTest {
    private static final String[] FACE = {
        "int letters(long w)", "int blank()", "int fault()", "int rule()", "int ruleTold(int rule, int what)",
        "int member(int kind, int n, int comes)", "int as(int member, int kind)", "int about(int member, int what)",
        "int comes(int member, int v)", "int candidate(int friend)", "int minds(int member, int candidate, int v)",
        "int friend(int candidate, int what)", "int black(int rule, int candidate, int comers, int member)",
        "int balls(int rule, int candidate, int comers, int k, int part)",
        "long in(int rule, int candidate, int comers, int part)", "long large(int rule, int candidate, int part)",
        "long wrong(int rule, int comers)", "int best(int comers)",
        "int who(int rule, int candidate, int comers, int member, int k, int part)",
        "int heard(int rule, int candidate, int comers, int member, int right, boolean black, int part)",
        "int sway(int rule, int candidate, int comers)", "int word(int rule, int comers, int tenths)",
        "long seen(int rule, int comers, int tenths, int part)",
        "int evening(int rule, int candidate, int comers, int seed, int what)",
        "int trade(int rule, int x, int y, int a, int b)", "int veto(int n, int v, int x)",
        "long worth(int n, int v, int part)", "int years(int rule, int years, int seed, int what)",
        "int lot(int candidate, int part)", "int image()", "int restore()", "int count(int what)", "long digest()"};
    private static final String[] CONSTANTS = {"NONE", "UNKNOWN", "OUTSIDE", "STATE", "FULL"};

    private static int wrong = 0;

    private static void must(boolean holds, String what) {
        if (!holds) {
            wrong++;
            System.out.println("does not hold: " + what);
        }
    }

    private static String signature(Method method) {
        StringBuilder text = new StringBuilder();
        text.append(method.getReturnType()).append(' ').append(method.getName()).append('(');
        String comma = "";
        for (Class<?> type : method.getParameterTypes()) {
            text.append(comma).append(type);
            comma = ",";
        }
        return text.append(')').toString();
    }

    private static void methods() {
        TreeSet<String> shown = new TreeSet<>();
        TreeSet<String> names = new TreeSet<>();
        for (Method method : BlackBalls.class.getDeclaredMethods()) {
            if (Modifier.isPublic(method.getModifiers())) {
                shown.add(signature(method));
                must(names.add(method.getName()), "one public method of the name " + method.getName());
                must(!Modifier.isStatic(method.getModifiers()), method.getName() + " is of an object");
            }
        }
        TreeSet<String> told = new TreeSet<>();
        for (String call : FACE) {
            told.add(withoutNames(call));
        }
        must(shown.equals(told), "the public methods are the document's, " + told + ", not " + shown);
        for (Method method : BlackBalls.class.getDeclaredMethods()) {
            if (!Modifier.isPublic(method.getModifiers())) {
                must(Modifier.isPrivate(method.getModifiers()), method.getName() + " is private");
                must(!names.contains(method.getName()), method.getName() + " bears no public name");
            }
            must(method.getParameterCount() <= 7, method.getName() + " takes seven at most");
        }
    }

    private static void fields() {
        TreeSet<String> shown = new TreeSet<>();
        for (Field field : BlackBalls.class.getDeclaredFields()) {
            int modifiers = field.getModifiers();
            if (Modifier.isPublic(modifiers)) {
                shown.add(field.getName());
                must(Modifier.isStatic(modifiers) && field.getType() == int.class, field.getName() + " is a constant of int");
            } else {
                must(Modifier.isPrivate(modifiers), field.getName() + " is private");
            }
            must(!Modifier.isStatic(modifiers) || Modifier.isFinal(modifiers), field.getName() + " is final");
        }
        must(shown.equals(new TreeSet<>(Arrays.asList(CONSTANTS))), "the public constants are the document's, not " + shown);
    }

    private static void classes() {
        must(Modifier.isFinal(BlackBalls.class.getModifiers()), "the class is final");
        Constructor<?>[] constructors = BlackBalls.class.getDeclaredConstructors();
        must(constructors.length == 1 && constructors[0].getParameterCount() == 0
            && Modifier.isPublic(constructors[0].getModifiers()), "one public constructor");
        Class<?>[] inside = BlackBalls.class.getDeclaredClasses();
        must(BlackBalls.class.getPackageName().isEmpty(), "the class is in no package");
        must(inside.length <= 11, "twelve classes at most");
        for (Class<?> one : inside) {
            must(Modifier.isStatic(one.getModifiers()) && !Modifier.isPublic(one.getModifiers()), one.getName() + " is static and not public");
            inside(one);
        }
    }

    private static void inside(Class<?> one) {
        int own = 0;
        for (Field field : one.getDeclaredFields()) {
            boolean isStatic = Modifier.isStatic(field.getModifiers());
            must(!isStatic || Modifier.isFinal(field.getModifiers()), field.getName() + " is final");
            own += isStatic ? 0 : 1;
        }
        must(own <= 20, one.getName() + " has twenty fields at most");
        for (Method method : one.getDeclaredMethods()) {
            must(method.getParameterCount() <= 7, method.getName() + " takes seven at most");
            for (String call : FACE) {
                must(!Modifier.isPrivate(method.getModifiers()) || !call.contains(" " + method.getName() + "("),
                    method.getName() + " bears no public name");
            }
        }
    }

    /** Of a call as the document tells it, without the names of what it is given. */
    private static String withoutNames(String call) {
        int open = call.indexOf('(');
        return call.substring(0, open) + call.substring(open).replaceAll("(int|long|boolean) \\w+", "$1").replace(", ", ",");
    }

    private static void source() throws IOException {
        String text = Files.readString(Path.of("src/main/java/BlackBalls.java"));
        for (String word : new String[] {"->", "::", "synchronized", "assert", "catch", "finally", "throw", "package ", "@", "double", "float", "java.lang"}) {
            must(!text.contains(word), "the source has no " + word);
        }
        for (String call : FACE) {
            must(text.contains("    public " + call + " {"), "the source names what is given as the document does: " + call);
        }
        for (String line : text.split("\n")) {
            must(!line.startsWith("import ") || line.equals("import java.util.Arrays;"), line);
        }
    }

    public static void main(String[] args) throws IOException {
        methods();
        fields();
        classes();
        source();
        System.out.println(wrong == 0 ? "the face is the document's" : wrong + " things do not hold");
        if (wrong != 0) {
            System.exit(1);
        }
    }
}
