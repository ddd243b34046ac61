import java.io.IOException;
import java.lang.reflect.Constructor;
import java.lang.reflect.Field;
import java.lang.reflect.Method;
import java.lang.reflect.Modifier;
import java.nio.file.Files;
import java.nio.file.Path;
import java.util.Arrays;
import java.util.List;
import java.util.TreeSet;

/** The class shows the document's face and nothing else, and keeps to those rules of LANGUAGE.md that can be seen from outside. */
public final class FaceTest {
    private static final String[] FACE = {
        "int letters(long)", "int blank()", "int fault()", "int rule()", "int ruleTold(int,int)",
        "int member(int,int,int)", "int as(int,int)", "int about(int,int)", "int comes(int,int)", "int candidate(int)",
        "int minds(int,int,int)", "int friend(int,int)",
        "int black(int,int,int,int)", "int balls(int,int,int,int,int)", "long in(int,int,int,int)", "long large(int,int,int)",
        "long wrong(int,int)", "int best(int)", "int who(int,int,int,int,int,int)",
        "int heard(int,int,int,int,int,boolean,int)", "int sway(int,int,int)", "int word(int,int,int)",
        "long seen(int,int,int,int)", "int evening(int,int,int,int,int)",
        "int trade(int,int,int,int,int)", "int veto(int,int,int)", "long worth(int,int,int)", "int years(int,int,int,int)",
        "int lot(int,int)", "int image()", "int restore()", "int count(int)", "long digest()"};
    private static final String[] CONSTANTS = {"NONE", "UNKNOWN", "OUTSIDE", "STATE", "FULL"};

    private static int wrong = 0;

    private static void must(boolean holds, String what) {
        if (!holds) {
            wrong++;
            System.out.println("does not hold: " + what);
        }
    }

    private static String signature(Method method) {
        StringBuilder text = new StringBuilder();
        text.append(method.getReturnType()).append(' ').append(method.getName()).append('(');
        String comma = "";
        for (Class<?> type : method.getParameterTypes()) {
            text.append(comma).append(type);
            comma = ",";
        }
        return text.append(')').toString();
    }

    private static void methods() {
        TreeSet<String> shown = new TreeSet<>();
        TreeSet<String> names = new TreeSet<>();
        for (Method method : BlackBalls.class.getDeclaredMethods()) {
            if (Modifier.isPublic(method.getModifiers())) {
                shown.add(signature(method));
                must(names.add(method.getName()), "one public method of the name " + method.getName());
                must(!Modifier.isStatic(method.getModifiers()), method.getName() + " is of an object");
            }
        }
        must(shown.equals(new TreeSet<>(Arrays.asList(FACE))), "the public methods are the document's, not " + shown);
        for (Method method : BlackBalls.class.getDeclaredMethods()) {
            if (!Modifier.isPublic(method.getModifiers())) {
                must(Modifier.isPrivate(method.getModifiers()), method.getName() + " is private");
                must(!names.contains(method.getName()), method.getName() + " bears no public name");
            }
            must(method.getParameterCount() <= 7, method.getName() + " takes seven at most");
        }
    }

    private static void fields() {
        TreeSet<String> shown = new TreeSet<>();
        for (Field field : BlackBalls.class.getDeclaredFields()) {
            int modifiers = field.getModifiers();
            if (Modifier.isPublic(modifiers)) {
                shown.add(field.getName());
                must(Modifier.isStatic(modifiers) && field.getType() == int.class, field.getName() + " is a constant of int");
            } else {
                must(Modifier.isPrivate(modifiers), field.getName() + " is private");
            }
            must(!Modifier.isStatic(modifiers) || Modifier.isFinal(modifiers), field.getName() + " is final");
        }
        must(shown.equals(new TreeSet<>(Arrays.asList(CONSTANTS))), "the public constants are the document's, not " + shown);
    }

    private static void classes() {
        must(Modifier.isFinal(BlackBalls.class.getModifiers()), "the class is final");
        Constructor<?>[] constructors = BlackBalls.class.getDeclaredConstructors();
        must(constructors.length == 1 && constructors[0].getParameterCount() == 0
            && Modifier.isPublic(constructors[0].getModifiers()), "one public constructor");
        Class<?>[] inside = BlackBalls.class.getDeclaredClasses();
        must(BlackBalls.class.getPackageName().isEmpty(), "the class is in no package");
        must(inside.length <= 11, "twelve classes at most");
        for (Class<?> one : inside) {
            must(Modifier.isStatic(one.getModifiers()) && !Modifier.isPublic(one.getModifiers()), one.getName() + " is static and not public");
            inside(one);
        }
    }

    private static void inside(Class<?> one) {
        int own = 0;
        for (Field field : one.getDeclaredFields()) {
            boolean isStatic = Modifier.isStatic(field.getModifiers());
            must(!isStatic || Modifier.isFinal(field.getModifiers()), field.getName() + " is final");
            own += isStatic ? 0 : 1;
        }
        must(own <= 20, one.getName() + " has twenty fields at most");
        for (Method method : one.getDeclaredMethods()) {
            must(method.getParameterCount() <= 7, method.getName() + " takes seven at most");
            for (String signature : FACE) {
                must(!Modifier.isPrivate(method.getModifiers()) || !signature.contains(" " + method.getName() + "("),
                    method.getName() + " bears no public name");
            }
        }
    }

    /** Each line of the document's face stands in the source, with the names that the document gives to what a call is given. */
    private static void asTheDocumentTells() throws IOException {
        String source = Files.readString(Path.of("src/main/java/BlackBalls.java"));
        List<String> lines = Files.readAllLines(Path.of("../shared/DOC.md"));
        int told = 0;
        for (int i = lines.indexOf("public final class BlackBalls {") + 1; i > 0 && i < lines.size() && !lines.get(i).equals("}"); i++) {
            String line = lines.get(i).strip();
            told++;
            must(source.contains(line.endsWith(");") ? line.replace(";", " {") : line), "the source has " + line);
        }
        must(told == FACE.length + 2, "the document's face has " + (FACE.length + 2) + " lines, not " + told);
    }

    private static void source() throws IOException {
        String text = Files.readString(Path.of("src/main/java/BlackBalls.java"));
        for (String word : new String[] {"->", "::", "synchronized", "assert", "catch", "finally", "throw", "package ", "@", "double", "float", "java.lang"}) {
            must(!text.contains(word), "the source has no " + word);
        }
        for (String line : text.split("\n")) {
            must(!line.startsWith("import ") || line.equals("import java.util.Arrays;"), line);
        }
    }

    public static void main(String[] args) throws IOException {
        methods();
        fields();
        classes();
        source();
        asTheDocumentTells();
        System.out.println(wrong == 0 ? "the face is the document's" : wrong + " things do not hold");
        if (wrong != 0) {
            System.exit(1);
        }
    }
}
