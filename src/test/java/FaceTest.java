import java.io.IOException;
import java.lang.reflect.Constructor;
import java.lang.reflect.Field;
import java.lang.reflect.Member;
import java.lang.reflect.Method;
import java.lang.reflect.Modifier;
import java.nio.charset.StandardCharsets;
import java.nio.file.Files;
import java.nio.file.Path;
import java.util.Arrays;
import java.util.Set;
import java.util.TreeSet;
import java.util.regex.Matcher;
import java.util.regex.Pattern;
import java.util.stream.Collectors;

/** The public face of the document, and the rules of LANGUAGE.md that can be seen from outside. */
public final class FaceTest {
    private static final Due DUE = new Due();
    private static final String FACE = "feed(int,int,int,int,int)int back(int)int read()int place()int noise(int,int)int "
        + "shot(int,int)int heard(int,int,int)int loud(int,int)int bears(int,int)int take(int)int waits(int)int "
        + "rests(int)int moves(int)int pay(int,int)int undo()boolean hole(int,int,int)int holes(int,int,int)int "
        + "softest(int,int,int)int next(int)int loudest(int,int)int peak(int,int)int calmest(int)int ours(int)int "
        + "best(int,int)int order(int)int bribe(int,int)int cellar(int,int)int cheapest(int,int)int "
        + "breakOff(int,int)int join(int)int odds(int,int,int)int tell(int,int,int)int forget()int when(int,int)int "
        + "hold(int)boolean restore(int)boolean count(int)int";

    private static boolean isPublic(Member member) {
        return Modifier.isPublic(member.getModifiers());
    }

    private static void check(String what, boolean holds) {
        DUE.is(what, holds, true);
    }

    private static String signature(Method method) {
        return method.getName() + Arrays.stream(method.getParameterTypes()).map(Class::getName)
            .collect(Collectors.joining(",", "(", ")")) + method.getReturnType().getName();
    }

    private static void members() {
        Class<?> face = QuietTake.class;
        check("public and final", Modifier.isPublic(face.getModifiers()) && Modifier.isFinal(face.getModifiers()));
        check("no package", face.getPackageName().isEmpty());
        Set<String> methods = new TreeSet<>();
        Set<String> names = new TreeSet<>();
        for (Method method : face.getDeclaredMethods()) {
            if (isPublic(method)) {
                methods.add(signature(method));
                names.add(method.getName());
            } else {
                check(method + " is private", Modifier.isPrivate(method.getModifiers()));
            }
        }
        check("the methods of the face: " + methods, methods.equals(new TreeSet<>(Arrays.asList(FACE.split(" ")))));
        for (Field field : face.getDeclaredFields()) {
            check(field + " is private, or NONE", field.getName().equals("NONE") == isPublic(field)
                && (isPublic(field) || Modifier.isPrivate(field.getModifiers())));
        }
        for (Constructor<?> constructor : face.getDeclaredConstructors()) {
            check("the constructor", isPublic(constructor) && constructor.getParameterCount() == 0);
        }
        DUE.is("NONE", QuietTake.NONE, -1);
        DUE.is("classes", Math.max(12, face.getDeclaredClasses().length + 1), 12);
        for (Class<?> inside : face.getDeclaredClasses()) {
            inside(inside, names);
        }
        inside(face, Set.of());
    }

    private static void inside(Class<?> inside, Set<String> faceNames) {
        int fields = 0;
        for (Field field : inside.getDeclaredFields()) {
            boolean isStatic = Modifier.isStatic(field.getModifiers());
            fields += isStatic ? 0 : 1;
            check(field + " is final if static", !isStatic || Modifier.isFinal(field.getModifiers()));
        }
        check(inside + " has 20 fields at most, not " + fields, fields <= 20);
        for (Method method : inside.getDeclaredMethods()) {
            check(method + " has 7 parameters at most", method.getParameterCount() <= 7);
            check(method + " has a name of its own", !faceNames.contains(method.getName()));
        }
        if (inside != QuietTake.class) {
            check(inside + " is private and static", Modifier.isStatic(inside.getModifiers())
                && Modifier.isPrivate(inside.getModifiers()));
        }
    }

    private static void source() throws IOException {
        Path path = Path.of("src/main/java/QuietTake.java");
        String source = Files.readString(path, StandardCharsets.US_ASCII);
        String code = source.replaceAll("(?s)/\\*.*?\\*/", "").replaceAll("//[^\n]*", "")
            .replaceAll("\"[^\"]*\"", "\"\"").replaceAll("'.'", "' '");
        Matcher forbidden = Pattern.compile("\\b(throw|throws|try|catch|finally|synchronized|assert|package|var|native"
            + "|volatile|transient|double|float|System\\.(?!arraycopy)\\w+|Object|equals|hashCode|toString)\\b|->|::")
            .matcher(code);
        while (forbidden.find()) {
            check("no " + forbidden.group(), false);
        }
        Matcher imports = Pattern.compile("import ([^;]*);").matcher(code);
        while (imports.find()) {
            check("import of " + imports.group(1), imports.group(1).equals("java.util.Arrays"));
        }
        Matcher methods = Pattern.compile("(?ms)^( {4}| {8})(?! )[^\n]*\\) \\{\n.*?^\\1\\}$").matcher(code);
        int seen = 0;
        while (methods.find()) {
            seen++;
            long lines = methods.group().lines().count();
            check(lines + " lines: " + methods.group().lines().findFirst().orElse(""), lines <= 60);
        }
        check("methods seen in the source: " + seen, seen > 90);
    }

    public static void main(String[] args) throws IOException {
        members();
        source();
        DUE.end();
    }
}
