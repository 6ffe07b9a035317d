import java.io.IOException;
import java.lang.reflect.Constructor;
import java.lang.reflect.Field;
import java.lang.reflect.Method;
import java.lang.reflect.Modifier;
import java.nio.charset.StandardCharsets;
import java.nio.file.Files;
import java.nio.file.Path;
import java.util.HashSet;
import java.util.Set;
import java.util.TreeSet;

/** The face of the class (rule 1), and what a program can see of the other rules of LANGUAGE.md in the source. */
public final class LanguageTest {
    private static final Due DUE = new Due("LanguageTest");
    private static final String FACE = "jumper(III) jumperIs(II) become(II) as(II) jump(II) rest(II) spell(II) bar(I) "
        + "liking(II) talk(II) feed(JI) text(I) untell(I) law(IIII) beats(I) loose(I) seed(I) then(III) lasts(I) "
        + "agree(I) fairest(I) balks(I) soon(I) meets(IIII) odds(II) fits(I) voice(III) body(I) sheet(III) put(III) "
        + "move(IIIII) breaths(I) judge(I) image() restore() tell(I) check() count(I) told(I)";
    private static final String[] FORBIDDEN = {"throw", "try", "catch", "finally", "synchronized", "assert", "import",
        "package", "volatile", "native", "transient", "float", "double", "Object", "System.out", "hashCode", "toString",
        "->", "::", "yield", "var", "Exact", "String.format", "goto"};

    public static void main(String[] args) throws IOException {
        face();
        insideClasses();
        if (args.length > 0) {
            source(Files.readString(Path.of(args[0]), StandardCharsets.UTF_8));
        }
        DUE.end();
    }

    private static void face() {
        int modifiers = RopeTreaty.class.getModifiers();
        DUE.is("public final", Modifier.isPublic(modifiers) && Modifier.isFinal(modifiers) ? 1 : 0, 1);
        Constructor<?>[] made = RopeTreaty.class.getDeclaredConstructors();
        DUE.is("constructors", made.length, 1);
        DUE.is("public constructor", Modifier.isPublic(made[0].getModifiers()) ? made[0].getParameterCount() : -1, 0);
        Set<String> due = new TreeSet<>(Set.of(FACE.split(" ")));
        Set<String> got = new TreeSet<>();
        for (Method m : RopeTreaty.class.getDeclaredMethods()) {
            if (!Modifier.isPrivate(m.getModifiers())) {
                got.add(shape(m));
                DUE.is(m.getName() + " answers an int", m.getReturnType() == int.class ? 1 : 0, 1);
                DUE.is(m.getName() + " is public", m.getModifiers(), Modifier.PUBLIC);
            }
        }
        DUE.is("the face is " + got, got.equals(due) ? 1 : 0, 1);
        for (Field f : RopeTreaty.class.getDeclaredFields()) {
            DUE.is(f.getName() + " is private", Modifier.isPrivate(f.getModifiers()) ? 1 : 0, 1);
        }
    }

    private static String shape(Method m) {
        StringBuilder types = new StringBuilder(m.getName()).append('(');
        for (Class<?> type : m.getParameterTypes()) {
            types.append(type == long.class ? 'J' : type == int.class ? 'I' : '?');
        }
        return types.append(')').toString();
    }

    private static void insideClasses() {
        Set<String> open = new HashSet<>();
        for (String name : FACE.split(" ")) {
            open.add(name.substring(0, name.indexOf('(')));
        }
        Class<?>[] inside = RopeTreaty.class.getDeclaredClasses();
        DUE.is("at most twelve classes", inside.length < 12 ? 1 : 0, 1);
        for (Class<?> c : inside) {
            DUE.is(c.getName() + " is static", Modifier.isStatic(c.getModifiers()) ? 1 : 0, 1);
            DUE.is(c.getName() + " is not public", Modifier.isPublic(c.getModifiers()) ? 0 : 1, 1);
            for (Method m : c.getDeclaredMethods()) {
                DUE.is(m.getName() + " has a name of its own", open.contains(m.getName()) ? 0 : 1, 1);
            }
            statics(c);
        }
        for (Method m : RopeTreaty.class.getDeclaredMethods()) {
            boolean hides = Modifier.isPrivate(m.getModifiers()) && open.contains(m.getName());
            DUE.is(m.getName() + " has a name of its own", hides ? 0 : 1, 1);
        }
        statics(RopeTreaty.class);
    }

    private static void statics(Class<?> c) {
        int fields = 0;
        for (Field f : c.getDeclaredFields()) {
            boolean isStatic = Modifier.isStatic(f.getModifiers());
            fields += isStatic ? 0 : 1;
            DUE.is(f.getName() + " is no static state", isStatic && !Modifier.isFinal(f.getModifiers()) ? 0 : 1, 1);
        }
        DUE.is(c.getName() + " has some twenty fields", fields <= 20 ? 1 : 0, 1);
    }

    /** The source without its comments, signs and strings, looked through word by word. */
    private static void source(String text) {
        String code = text.replaceAll("(?s)/\\*.*?\\*/", " ").replaceAll("//[^\n]*", " ")
            .replaceAll("'(\\\\.|[^'])'", "0").replaceAll("\"(\\\\.|[^\"\\\\])*\"", "S");
        for (String word : FORBIDDEN) {
            String edge = Character.isLetter(word.charAt(0)) ? "\\b" : "";
            boolean found = java.util.regex.Pattern.compile(edge + java.util.regex.Pattern.quote(word) + edge)
                .matcher(code).find();
            DUE.is("the source has \"" + word + "\"", found ? 1 : 0, 0);
        }
        DUE.is("a sign beyond 127", text.chars().anyMatch(sign -> sign > 127) ? 1 : 0, 0);
        DUE.is("a static block", java.util.regex.Pattern.compile("static\\s*\\{").matcher(code).find() ? 1 : 0, 0);
        methodLengths(code);
        handedOut(code);
        madeOnce(code);
    }

    /** Rule 12: what a field is made with as its object is made are constants, nothing of that object. */
    private static void handedOut(String code) {
        for (String line : code.split("\n")) {
            boolean made = line.matches("\\s+(private )?final [\\w\\[\\]]+ \\w+ = .*\\w\\(([^)]*, )?[a-z].*");
            DUE.is("made with a field or this: " + line, made ? 1 : 0, 0);
        }
    }

    /** The one room of all calls: objects are made with a field or in the constructor, by no other call. */
    private static void madeOnce(String code) {
        String constructor = "public RopeTreaty\\(\\) \\{(?s).*?\n    \\}";
        for (String line : code.replaceFirst(constructor, "").split("\n")) {
            boolean field = line.matches("\\s+(private )?final [\\w\\[\\]]+ \\w+ = .*");
            DUE.is("made by a call: " + line, !field && line.matches(".*\\b(new|clone|copyOf)\\b.*") ? 1 : 0, 0);
        }
    }

    private static void methodLengths(String code) {
        int depth = 0;
        int line = 1;
        int[] began = new int[40];
        for (char sign : code.toCharArray()) {
            if (sign == '\n') {
                line++;
            } else if (sign == '{') {
                depth++;
                began[depth] = line;
            } else if (sign == '}') {
                boolean member = depth >= 2 && line - began[depth] > 60 && !isClass(code, began[depth]);
                DUE.is("a method of more than sixty lines ends at " + line, member ? 1 : 0, 0);
                depth--;
            }
        }
    }

    private static boolean isClass(String code, int line) {
        return code.split("\n", -1)[line - 1].contains(" class ");
    }
}
