import java.io.IOException;
import java.lang.reflect.Constructor;
import java.lang.reflect.Field;
import java.lang.reflect.Method;
import java.lang.reflect.Modifier;
import java.nio.file.Files;
import java.nio.file.Path;
import java.util.Arrays;
import java.util.TreeSet;

/** The class shows the document's face and nothing else, and keeps to what can be seen of the rules. */
public final class FaceTest {

    private static final Check CHECK = new Check();

    private static final String[] FACE = {
        "int axis(int)", "int category(int,int)", "boolean move(int,int)", "int document(int)",
        "boolean tag(int,int,boolean)", "boolean number(int,int,int)", "boolean unnumber(int,int)",
        "boolean remove(int)", "boolean select(int,boolean)", "int range(int,int,int)",
        "boolean drop(int,int)", "boolean missing(int,boolean)", "boolean open(int)",
        "boolean back()", "int of(int,int)", "int doc(int,int)", "boolean has(int,int)",
        "int numberOf(int,int)", "int hit(int)", "int near(int)", "int shown(int)",
        "int shownMissing(int)", "int click(int,int)", "int lift(int,int)", "int sums(int,int)",
        "long sets(int,int)", "int bin(int,int,int,int)", "int bins(int,int)", "int even(int,int)",
        "int top(int,int,int)", "int read(int,int)", "int path(int,int)", "int split()",
        "int cover(int,int)", "int both(int,int)", "int alike(int,int)", "int nearest(int)",
        "int miss(int)", "int most()", "int middle(int,int)", "int count(int)",
    };

    private static final String[] THROWING = {"numberOf", "bin", "middle"};

    public static void main(String[] args) throws IOException {
        members();
        methods();
        nested();
        source();
        wordForWord();
        CHECK.end("FaceTest");
    }

    private static void members() {
        int modifiers = DrillCount.class.getModifiers();
        CHECK.yes("public", Modifier.isPublic(modifiers));
        CHECK.yes("final", Modifier.isFinal(modifiers));
        Constructor<?>[] made = DrillCount.class.getDeclaredConstructors();
        CHECK.same("constructors", made.length, 1);
        CHECK.yes("the constructor is public", Modifier.isPublic(made[0].getModifiers()));
        CHECK.same("what it takes", made[0].getParameterCount(), 0);
        for (Field field : DrillCount.class.getDeclaredFields()) {
            boolean face = field.getName().equals("NONE");
            CHECK.yes(field.getName() + " is as visible as it may be",
                    face == Modifier.isPublic(field.getModifiers())
                            && face != Modifier.isPrivate(field.getModifiers()));
            CHECK.yes(field.getName() + " is final, if it is static",
                    !Modifier.isStatic(field.getModifiers())
                            || Modifier.isFinal(field.getModifiers()));
        }
    }

    private static void methods() {
        TreeSet<String> due = new TreeSet<>(Arrays.asList(FACE));
        TreeSet<String> got = new TreeSet<>();
        TreeSet<String> names = new TreeSet<>();
        for (Method method : DrillCount.class.getDeclaredMethods()) {
            if (Modifier.isPublic(method.getModifiers())) {
                got.add(signature(method));
                names.add(method.getName());
                boolean throwing = Arrays.asList(THROWING).contains(method.getName());
                CHECK.same(method.getName() + " declares exceptions",
                        method.getExceptionTypes().length, throwing ? 1 : 0);
            }
        }
        CHECK.note(got.equals(due), "the face is " + got + ", due is " + due);
        for (Method method : DrillCount.class.getDeclaredMethods()) {
            if (!Modifier.isPublic(method.getModifiers())) {
                CHECK.yes(method + " is private", Modifier.isPrivate(method.getModifiers()));
                CHECK.no(method + " bears a public name", names.contains(method.getName()));
            }
        }
    }

    private static String signature(Method method) {
        StringBuilder text = new StringBuilder(method.getReturnType().getName());
        text.append(' ').append(method.getName()).append('(');
        String comma = "";
        for (Class<?> type : method.getParameterTypes()) {
            text.append(comma).append(type.getName());
            comma = ",";
        }
        return text.append(')').toString();
    }

    private static void nested() {
        Class<?>[] inside = DrillCount.class.getDeclaredClasses();
        CHECK.yes("at most twelve classes", inside.length + 1 <= 12);
        for (Class<?> one : inside) {
            CHECK.yes(one + " is static", Modifier.isStatic(one.getModifiers()));
            CHECK.yes(one + " is private", Modifier.isPrivate(one.getModifiers()));
            CHECK.yes(one + " has few fields", one.getDeclaredFields().length <= 20);
            for (Method method : one.getDeclaredMethods()) {
                CHECK.yes(method + " takes at most seven", method.getParameterCount() <= 7);
            }
        }
    }

    /** What the language rules forbid and a look at the text can find. */
    private static void source() throws IOException {
        String text = Files.readString(Path.of("src/main/java/DrillCount.java"));
        String[] forbidden = {
            "->", "::", "catch", "finally", "synchronized", "assert ", "Exact(", "package ",
            "Math.random", "System.", "Thread", "double", "float", "static {",
        };
        for (String word : forbidden) {
            CHECK.no("the source has '" + word + "'", text.contains(word));
        }
        int imports = text.split("\nimport |^import ", -1).length - 1;
        CHECK.same("imports", imports, 1);
        CHECK.yes("it is the one that the face has",
                text.contains("import java.util.NoSuchElementException;"));
        for (int i = 0; i < text.length(); i++) {
            if (text.charAt(i) > 126) {
                CHECK.note(false, "a sign beyond 126 stands in the source at " + i);
            }
        }
    }

    /** Each line of the document's face stands in the source, with the names of what it takes. */
    private static void wordForWord() throws IOException {
        Document document = Document.read();
        if (document == null) {
            return;
        }
        String text = Files.readString(Path.of("src/main/java/DrillCount.java"));
        int calls = 0;
        for (String line : document.face()) {
            boolean isCall = line.contains("(") && line.endsWith(";");
            calls += isCall ? 1 : 0;
            String due = isCall ? line.substring(0, line.length() - 1) + " {" : line;
            CHECK.yes("the source has '" + due + "'", line.startsWith("```") || text.contains(due));
        }
        CHECK.same("the constructor and the methods of the document", calls, FACE.length + 1);
    }
}
