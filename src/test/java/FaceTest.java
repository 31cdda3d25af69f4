import java.io.IOException;
import java.lang.reflect.Constructor;
import java.lang.reflect.Field;
import java.lang.reflect.Member;
import java.lang.reflect.Method;
import java.lang.reflect.Modifier;
import java.nio.file.Files;
import java.nio.file.Path;
import java.util.Set;
import java.util.TreeSet;
import java.util.regex.Matcher;
import java.util.regex.Pattern;

/* The public face of ../shared/DOC.md, line by line, and rule 1 of LANGUAGE.md: there is nothing beside it. */
public final class FaceTest {
    private static final Path DOCUMENT = Path.of("../shared/DOC.md");

    private static final Due due = new Due();

    private static String faceOfTheDocument() throws IOException {
        Matcher block = Pattern.compile("(?s)## The public face.*?```java\n(.*?)```").matcher(Files.readString(DOCUMENT));
        return block.find() ? block.group(1) : "";
    }

    /* As the document writes it, but for the names of the numbers. */
    private static String shown(Method method) {
        StringBuilder line = new StringBuilder("public ");
        line.append(Modifier.isStatic(method.getModifiers()) ? "static " : "").append(method.getReturnType().getSimpleName());
        line.append(' ').append(method.getName()).append('(');
        for (Class<?> type : method.getParameterTypes()) {
            line.append(line.charAt(line.length() - 1) == '(' ? "" : ", ").append(type.getSimpleName());
        }
        return line.append(");").toString();
    }

    private static void same(String name, Set<String> got, Set<String> want) {
        for (String line : want) due.is(name + " is there: " + line, got.contains(line) ? 1 : 0, 1);
        for (String line : got) due.is(name + " is in the document: " + line, want.contains(line) ? 1 : 0, 1);
    }

    private static void methods(String face) {
        Set<String> want = new TreeSet<>();
        Set<String> got = new TreeSet<>();
        Matcher line = Pattern.compile("public (int|long) \\w+\\([^)]*\\);").matcher(face);
        while (line.find()) want.add(line.group().replaceAll("(int|long) \\w+(?=[,)])", "$1"));
        for (Method method : OvenLies.class.getDeclaredMethods()) {
            if (Modifier.isPublic(method.getModifiers())) got.add(shown(method));
        }
        due.is("methods of the face", want.size(), 37);
        same("a method", got, want);
    }

    private static void constants(String face) throws ReflectiveOperationException {
        Set<String> want = new TreeSet<>();
        Set<String> got = new TreeSet<>();
        Matcher told = Pattern.compile("([A-Z]+) = (-?\\d+)[,;]").matcher(face);
        while (told.find()) want.add(told.group(1) + " = " + told.group(2));
        for (Field field : OvenLies.class.getDeclaredFields()) {
            int modifiers = field.getModifiers();
            if (Modifier.isPublic(modifiers)) {
                due.is(field + " is a constant", Modifier.isStatic(modifiers) && Modifier.isFinal(modifiers) ? 1 : 0, 1);
                due.is(field + " is an int", field.getType() == int.class ? 1 : 0, 1);
                got.add(field.getName() + " = " + field.getInt(null));
            }
        }
        due.is("constants of the face", want.size(), 4);
        same("a constant", got, want);
    }

    private static void theClass() {
        due.is("a public final class", OvenLies.class.getModifiers(), Modifier.PUBLIC | Modifier.FINAL);
        due.is("without a package", OvenLies.class.getPackageName().length(), 0);
        due.is("above it is Object alone", OvenLies.class.getSuperclass() == Object.class ? 1 : 0, 1);
        due.is("no interface", OvenLies.class.getInterfaces().length, 0);
        Constructor<?>[] constructors = OvenLies.class.getDeclaredConstructors();
        due.is("one constructor", constructors.length, 1);
        due.is("it is public", constructors[0].getModifiers(), Modifier.PUBLIC);
        due.is("it asks for nothing", constructors[0].getParameterCount(), 0);
    }

    private static void isPrivate(Member member, boolean ofTheFace) {
        boolean fine = member.isSynthetic() || Modifier.isPrivate(member.getModifiers())
            || ofTheFace && Modifier.isPublic(member.getModifiers());
        due.is("rule 1: private: " + member, fine ? 1 : 0, 1);
    }

    private static void privateOnes(Class<?> type, Set<String> publicNames) {
        boolean face = type == OvenLies.class;
        for (Field field : type.getDeclaredFields()) isPrivate(field, face);
        for (Constructor<?> constructor : type.getDeclaredConstructors()) isPrivate(constructor, face);
        for (Method method : type.getDeclaredMethods()) {
            isPrivate(method, face);
            boolean named = !Modifier.isPublic(method.getModifiers()) && publicNames.contains(method.getName());
            due.is("rule 1: no private method bears a public one's name: " + method, named ? 1 : 0, 0);
        }
        for (Class<?> inside : type.getDeclaredClasses()) {
            due.is("rule 2: static: " + inside, Modifier.isStatic(inside.getModifiers()) ? 1 : 0, 1);
            due.is("rule 1: private: " + inside, Modifier.isPrivate(inside.getModifiers()) ? 1 : 0, 1);
            privateOnes(inside, publicNames);
        }
    }

    public static void main(String[] args) throws IOException, ReflectiveOperationException {
        String face = faceOfTheDocument();
        theClass();
        methods(face);
        constants(face);
        Set<String> publicNames = new TreeSet<>();
        for (Method method : OvenLies.class.getDeclaredMethods()) {
            if (Modifier.isPublic(method.getModifiers())) publicNames.add(method.getName());
        }
        privateOnes(OvenLies.class, publicNames);
        due.end();
    }
}
