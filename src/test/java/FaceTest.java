import java.lang.reflect.Constructor;
import java.lang.reflect.Field;
import java.lang.reflect.Method;
import java.lang.reflect.Modifier;
import java.nio.file.Files;
import java.nio.file.Path;
import java.util.ArrayList;
import java.util.Collections;
import java.util.List;

/** The public face, and those rules of LANGUAGE.md that can be seen from outside or in the text. */
public final class FaceTest {
    private static final Check CHECK = new Check("FaceTest");

    private static final String FACE = "[alike(int,int):int, bounds(int,int):int, clash(int,int):int, "
            + "clear():void, count(int):int, fill(int,int,int):int, kind(int):int, length(int,int):int, "
            + "measure(int,int):int, parameters(int):int, read(int):int, scope(int,int):int, "
            + "text(int,int,int):int, type(int):int]";

    private static final String[] FORBIDDEN = {
        "import ", "package ", "throw ", "try ", "catch ", "synchronized", "assert ", "->", "::",
        "Random", "System.nanoTime", "System.currentTimeMillis", "System.out", "float ", "double ",
    };

    public static void main(String[] args) throws Exception {
        Class<?> face = SignatureForest.class;
        CHECK.same("modifiers", Modifier.toString(face.getModifiers()), "public final");
        methodsAreThoseOfTheDocument(face);
        fieldsArePrivate(face);
        CHECK.same("constructors", face.getDeclaredConstructors().length, 1);
        for (Constructor<?> made : face.getDeclaredConstructors()) {
            CHECK.same("the constructor", made.toString(), "public SignatureForest()");
        }
        classesInsideAreStatic(face);
        theTextKeepsToTheRules();
        CHECK.end();
    }

    private static void methodsAreThoseOfTheDocument(Class<?> face) {
        List<String> open = new ArrayList<>();
        List<String> names = new ArrayList<>();
        for (Method method : face.getDeclaredMethods()) {
            if (!Modifier.isPrivate(method.getModifiers())) {
                open.add(described(method));
                names.add(method.getName());
            }
        }
        Collections.sort(open);
        CHECK.same("the face", open.toString(), FACE);
        for (Method method : face.getDeclaredMethods()) {
            boolean hidden = Modifier.isPrivate(method.getModifiers());
            CHECK.same("private " + method.getName(), hidden && names.contains(method.getName()) ? 1 : 0, 0);
        }
    }

    private static String described(Method method) {
        List<String> types = new ArrayList<>();
        for (Class<?> type : method.getParameterTypes()) {
            types.add(type.getSimpleName());
        }
        return method.getName() + "(" + String.join(",", types) + "):" + method.getReturnType();
    }

    private static void fieldsArePrivate(Class<?> face) {
        for (Field field : face.getDeclaredFields()) {
            boolean due = field.getName().equals("REFUSED")
                    ? Modifier.toString(field.getModifiers()).equals("public static final")
                    : Modifier.isPrivate(field.getModifiers());
            CHECK.same("modifiers of " + field.getName(), due ? 1 : 0, 1);
            boolean fixed = !Modifier.isStatic(field.getModifiers()) || Modifier.isFinal(field.getModifiers());
            CHECK.same("static and final: " + field.getName(), fixed ? 1 : 0, 1);
        }
    }

    private static void classesInsideAreStatic(Class<?> face) {
        Class<?>[] inside = face.getDeclaredClasses();
        CHECK.same("twelve classes at most", inside.length < 12 ? 1 : 0, 1);
        for (Class<?> one : inside) {
            int modifiers = one.getModifiers();
            boolean due = Modifier.isStatic(modifiers) && !Modifier.isPublic(modifiers);
            CHECK.same("static and not public: " + one.getSimpleName(), due ? 1 : 0, 1);
            for (Method method : one.getDeclaredMethods()) {
                CHECK.same("parameters of " + method.getName(), method.getParameterCount() <= 7 ? 1 : 0, 1);
            }
        }
    }

    private static void theTextKeepsToTheRules() throws Exception {
        for (String line : Files.readAllLines(Path.of("src/main/java/SignatureForest.java"))) {
            String code = line.strip();
            if (code.startsWith("//") || code.startsWith("*") || code.startsWith("/*")) {
                continue;
            }
            for (String word : FORBIDDEN) {
                CHECK.same(word + " in " + code, code.contains(word) ? 1 : 0, 0);
            }
        }
    }
}
