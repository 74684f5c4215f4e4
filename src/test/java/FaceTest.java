import java.io.IOException;
import java.lang.reflect.Constructor;
import java.lang.reflect.Field;
import java.lang.reflect.Method;
import java.lang.reflect.Modifier;
import java.nio.file.Files;
import java.nio.file.Path;
import java.util.Set;
import java.util.TreeSet;

/** The public face as the document says it, and those rules of LANGUAGE.md that can be seen from outside. */
public final class FaceTest {
    private static final Check check = new Check("FaceTest");

    private static final Set<String> FACE = Set.of(
        "int hill(int,int,int,int)", "int sign(int)", "int set(int,int)", "int party(int)", "int wet(boolean)",
        "int vote(int,int)", "int ofVote(int,int)", "int back(int)", "int roll(int,int,int,int)",
        "long chance(int,int,int)", "long expects(int,int)", "int start(int,int)", "int move(int)",
        "int answer(int,int)", "int likeliest(int)", "int tally(int)", "int winner(int)", "long dams(int)",
        "int ways(int,int,int,int)", "int fair()", "int sheet(int,int,int)", "int lose(int)",
        "int put(int,int,int)", "long cell(int,int,int)", "int copy(int,int,int,int,int)", "int tell(int)",
        "int weigh(int)", "int as(int,int)", "int trace()", "int fault()", "int many(int)");

    private static final Set<String> CONSTANTS = Set.of("UNKNOWN", "OUTSIDE", "STATE", "FULL", "NONE", "LOST");

    public static void main(String[] args) throws IOException {
        check.holds("the class is public and final",
            MarbleVotes.class.getModifiers() == (Modifier.PUBLIC | Modifier.FINAL));
        Constructor<?>[] makers = MarbleVotes.class.getDeclaredConstructors();
        check.holds("there is one constructor, public, of nothing",
            makers.length == 1 && makers[0].getParameterCount() == 0 && Modifier.isPublic(makers[0].getModifiers()));
        methods();
        fields();
        classesInside();
        source(Path.of(args.length > 0 ? args[0] : "src/main/java/MarbleVotes.java"));
        check.end();
    }

    private static String faceOf(Method method) {
        StringBuilder text = new StringBuilder(method.getReturnType() + " " + method.getName() + "(");
        for (Class<?> type : method.getParameterTypes()) {
            text.append(text.charAt(text.length() - 1) == '(' ? "" : ",").append(type);
        }
        return text.append(")").toString();
    }

    private static void methods() {
        Set<String> publicOnes = new TreeSet<>();
        for (Method method : MarbleVotes.class.getDeclaredMethods()) {
            if (Modifier.isPublic(method.getModifiers())) {
                publicOnes.add(faceOf(method));
                check.holds(method + " is of the object", !Modifier.isStatic(method.getModifiers()));
            } else {
                check.holds(method + " is private", Modifier.isPrivate(method.getModifiers()));
                check.holds(method + " bears no public one's name", !isPublicName(method.getName()));
            }
        }
        check.holds("the public methods are the document's", publicOnes.equals(new TreeSet<>(FACE)));
    }

    private static boolean isPublicName(String name) {
        return FACE.stream().anyMatch(of -> of.contains(" " + name + "("));
    }

    private static void fields() {
        Set<String> publicOnes = new TreeSet<>();
        for (Field field : MarbleVotes.class.getDeclaredFields()) {
            int is = field.getModifiers();
            if (Modifier.isPublic(is)) {
                publicOnes.add(field.getName());
            } else {
                check.holds(field + " is private", Modifier.isPrivate(is));
            }
            check.holds(field + " is final if it is static", !Modifier.isStatic(is) || Modifier.isFinal(is));
        }
        check.holds("the public fields are the document's", publicOnes.equals(new TreeSet<>(CONSTANTS)));
    }

    private static void classesInside() {
        Class<?>[] inside = MarbleVotes.class.getDeclaredClasses();
        check.holds("there are some twelve classes at most", inside.length < 12);
        for (Class<?> of : inside) {
            check.holds(of + " is private and static",
                Modifier.isPrivate(of.getModifiers()) && Modifier.isStatic(of.getModifiers()));
            check.holds(of + " has no class inside", of.getDeclaredClasses().length == 0);
            for (Field field : of.getDeclaredFields()) {
                check.holds(field + " is not static", !Modifier.isStatic(field.getModifiers()));
            }
            for (Method method : of.getDeclaredMethods()) {
                check.holds(method + " bears no public one's name", !isPublicName(method.getName()));
                check.holds(method + " takes seven at most", method.getParameterCount() <= 7);
            }
        }
    }

    private static void source(Path file) throws IOException {
        int methodBegan = 0;
        int line = 0;
        for (String text : Files.readAllLines(file)) {
            line++;
            String code = text.replaceAll("//.*|/\\*\\*.*|^ *\\*.*", "");
            check.holds("line " + line + " keeps to what the language leaves", !code.matches(
                ".*(\\b(throw|try|catch|synchronized|assert|throws|package|hashCode|toString|Object)\\b"
                    + "|->|::|Exact\\(|System\\.(?!arraycopy\\()).*"));
            check.holds("line " + line + " imports what is listed",
                !code.startsWith("import") || code.equals("import java.util.Arrays;"));
            if (code.matches(" +[^=;]*\\) \\{") && !code.matches(" +(\\} else )?(if|for|while|switch) .*")) {
                methodBegan = line;
            }
            check.holds("the method of line " + methodBegan + " is short", methodBegan == 0
                || !code.matches(" {4}( {4})?\\}") || line - methodBegan < 60);
        }
    }
}
