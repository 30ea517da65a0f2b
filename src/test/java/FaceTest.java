import java.lang.reflect.Constructor;
import java.lang.reflect.Field;
import java.lang.reflect.Method;
import java.lang.reflect.Modifier;
import java.nio.file.Files;
import java.nio.file.Path;
import java.util.Arrays;
import java.util.HashSet;
import java.util.Set;
import java.util.TreeSet;
import java.util.regex.Pattern;

/** The public face, and what of LANGUAGE.md can be looked at from outside. */
public final class FaceTest {
    private static final Due DUE = new Due();
    private static final String[] FACE = {
        "int feed(int,int,int,int,int)", "boolean end(int)", "int field()", "int law(int)", "int plan()", "int fault(int)",
        "int has(int)", "int letter(int,int,int)", "int sight(int,int)", "int piece(int,int)", "int pieceHas(int,int)",
        "int light(int,int,int)", "int carries(int,int,int,int,int,int)", "int says(int,int,int,int,int)",
        "int whole(int,int,int,int,int,int,int,int)", "int odds(int,int,int,int,int,boolean,boolean)",
        "int draw(int,int,int,int,int,int,int)", "int trial(int,int,int,int,int,int,boolean,int)", "int run(int,int)",
        "boolean moved(int,int,int)", "boolean voice(int,int)", "int undo()", "int tried(int,int)", "int count(int,int,boolean)",
        "long chance(int)", "long honest(int)", "int needed(int,long)", "int kind(int,int)", "int kinds(int,int)",
        "long weight(int)", "int thrown(int)", "int likely()", "int lies(int)", "int span(int,boolean)", "int bound()",
        "int left()", "int fewest(int,boolean)", "int parted(int,int,int,int,int,int)", "int next(int,int,int,int)",
        "int chair(int,int,boolean)", "int walks(int)", "long walk(int,boolean)", "int image()", "int octet(int)", "boolean on()"};
    private static final String[] FORBIDDEN = {"throw", "throws", "try", "catch", "synchronized", "assert", "import", "package",
        "protected", "new Object", "System.currentTimeMillis", "->", "::", "lambda"};

    public static void main(String[] args) throws Exception {
        methods();
        members();
        classes();
        source();
        DUE.end();
    }

    private static String told(Method method) {
        StringBuilder text = new StringBuilder(method.getReturnType().getName()).append(' ').append(method.getName()).append('(');
        Class<?>[] parts = method.getParameterTypes();
        for (int k = 0; k < parts.length; k++) {
            text.append(k == 0 ? "" : ",").append(parts[k].getName());
        }
        return text.append(')').toString();
    }

    private static void methods() {
        Set<String> open = new TreeSet<>();
        Set<String> names = new HashSet<>();
        for (Method method : BlindSide.class.getDeclaredMethods()) {
            if (!Modifier.isPrivate(method.getModifiers())) {
                open.add(told(method));
                names.add(method.getName());
                DUE.is("public, not static: " + method, method.getModifiers(), Modifier.PUBLIC);
            }
        }
        DUE.is("face: " + open, open.equals(new TreeSet<>(Arrays.asList(FACE))), true);
        for (Method method : BlindSide.class.getDeclaredMethods()) {
            if (Modifier.isPrivate(method.getModifiers())) {
                DUE.is("a name of its own: " + method, names.contains(method.getName()), false);
                DUE.is("seven parameters: " + method, method.getParameterCount() <= 7, true);
            }
        }
    }

    private static void members() throws Exception {
        DUE.is("public and final", BlindSide.class.getModifiers(), Modifier.PUBLIC | Modifier.FINAL);
        Constructor<?>[] all = BlindSide.class.getDeclaredConstructors();
        DUE.is("one constructor", all.length, 1);
        DUE.is("its parameters", all[0].getParameterCount(), 0);
        DUE.is("public", all[0].getModifiers(), Modifier.PUBLIC);
        for (Field field : BlindSide.class.getDeclaredFields()) {
            boolean none = field.getName().equals("NONE");
            DUE.is("private but NONE: " + field, Modifier.isPrivate(field.getModifiers()), !none);
        }
        DUE.is("NONE", BlindSide.class.getField("NONE").getModifiers(), Modifier.PUBLIC | Modifier.STATIC | Modifier.FINAL);
    }

    private static void classes() {
        DUE.is("some twelve classes", BlindSide.class.getDeclaredClasses().length <= 12, true);
        for (Class<?> inside : BlindSide.class.getDeclaredClasses()) {
            int modifiers = inside.getModifiers();
            DUE.is("static: " + inside, Modifier.isStatic(modifiers), true);
            DUE.is("not open: " + inside, Modifier.isPublic(modifiers) || Modifier.isProtected(modifiers), false);
            fields(inside);
        }
        fields(BlindSide.class);
    }

    private static void fields(Class<?> owner) {
        int own = 0;
        for (Field field : owner.getDeclaredFields()) {
            boolean shared = Modifier.isStatic(field.getModifiers());
            own += shared ? 0 : 1;
            DUE.is("final: " + field, !shared || Modifier.isFinal(field.getModifiers()), true);
        }
        DUE.is("some twenty fields: " + owner, own <= 20, true);
    }

    private static void source() throws Exception {
        String text = Files.readString(Path.of("src/main/java/BlindSide.java"));
        String code = text.replaceAll("(?s)/\\*.*?\\*/", "").replaceAll("//[^\n]*", "").replaceAll("\"[^\"\n]*\"", "\"\"");
        for (String word : FORBIDDEN) {
            boolean isWord = Character.isLetter(word.charAt(0));
            String pattern = isWord ? "\\b" + Pattern.quote(word) + "\\b" : Pattern.quote(word);
            DUE.is("forbidden: " + word, Pattern.compile(pattern).matcher(code).find(), false);
        }
        int begin = -1;
        String[] lines = text.split("\n");
        for (int k = 0; k < lines.length; k++) {
            if (lines[k].matches(" {4,8}(public|private)[^=;]*\\) \\{")) {
                begin = k;
            } else if (begin >= 0 && lines[k].equals(lines[begin].replaceAll("\\S.*", "") + "}")) {
                DUE.is("some sixty lines: " + lines[begin], k - begin <= 60, true);
                begin = -1;
            }
        }
    }
}
