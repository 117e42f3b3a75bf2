import java.lang.reflect.Constructor;
import java.lang.reflect.Field;
import java.lang.reflect.Method;
import java.lang.reflect.Modifier;
import java.util.Set;
import java.util.TreeSet;

/** The class shows the document's face and nothing more. */
public final class FaceTest {
    private static final Set<String> FACE = Set.of(
        "public int say(int,int,int,int)",
        "public boolean gram(int,int,int,int,int)",
        "public boolean ungram(int,int,int)",
        "public int after(int,int,int)",
        "public boolean topology(int,int,int)",
        "public int frame()",
        "public boolean drop()",
        "public boolean sound(int,int,int,int)",
        "public int frames()",
        "public int nodes()",
        "public int total()",
        "public int length()",
        "public int wordAt(int)",
        "public int live(int)",
        "public int best(int)");

    private static String form(Method method) {
        StringBuilder text = new StringBuilder(Modifier.toString(method.getModifiers()));
        text.append(' ').append(method.getReturnType().getName()).append(' ').append(method.getName()).append('(');
        Class<?>[] parameters = method.getParameterTypes();
        for (int i = 0; i < parameters.length; i++) {
            text.append(i == 0 ? "" : ",").append(parameters[i].getName());
        }
        return text.append(')').toString();
    }

    public static void main(String[] args) {
        Set<String> wrong = new TreeSet<>();
        Set<String> seen = new TreeSet<>();
        Set<String> names = new TreeSet<>();
        for (Method method : WordTokenPasser.class.getDeclaredMethods()) {
            if (!Modifier.isPrivate(method.getModifiers())) {
                seen.add(form(method));
                names.add(method.getName());
            }
        }
        if (!seen.equals(FACE)) {
            wrong.add("the methods are " + seen);
        }
        for (Method method : WordTokenPasser.class.getDeclaredMethods()) {
            if (Modifier.isPrivate(method.getModifiers()) && names.contains(method.getName())) {
                wrong.add("a private method bears a public name: " + method);
            }
        }
        for (Field field : WordTokenPasser.class.getDeclaredFields()) {
            boolean constant = field.getName().equals("NONE") && field.getType() == int.class
                && Modifier.toString(field.getModifiers()).equals("public static final");
            if (!Modifier.isPrivate(field.getModifiers()) && !constant) {
                wrong.add("a field shows: " + field);
            }
        }
        Constructor<?>[] constructors = WordTokenPasser.class.getDeclaredConstructors();
        if (constructors.length != 1 || !constructors[0].toString().equals("public WordTokenPasser()")) {
            wrong.add("the constructors are not the one of the document");
        }
        if (!Modifier.toString(WordTokenPasser.class.getModifiers()).equals("public final")) {
            wrong.add("the class is not public and final");
        }
        for (Class<?> inner : WordTokenPasser.class.getDeclaredClasses()) {
            if (!Modifier.isStatic(inner.getModifiers()) || Modifier.isPublic(inner.getModifiers())) {
                wrong.add("a class inside is public or not static: " + inner);
            }
        }
        for (String line : wrong) {
            System.out.println(line);
        }
        System.out.println(wrong.isEmpty() ? "the face is the document's" : "the face is not the document's");
        if (!wrong.isEmpty()) {
            System.exit(1);
        }
    }
}
