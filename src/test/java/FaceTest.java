import java.io.IOException;
import java.lang.reflect.Constructor;
import java.lang.reflect.Field;
import java.lang.reflect.Method;
import java.lang.reflect.Modifier;
import java.nio.file.Files;
import java.nio.file.Path;
import java.util.Set;
import java.util.TreeSet;
import java.util.regex.Matcher;
import java.util.regex.Pattern;

/** The public face as the document has it, and the rules of the language that can be seen from outside. */
public final class FaceTest {
    private static final String SOURCE = "src/main/java/PaidToWhisper.java";

    private static final String[] FACE = {
        "int letter(int)", "int blank()", "int fault()", "int town()", "int noise(int)", "int hum(int,int)",
        "int listener(int,int)", "int about(int,int)", "int as(int,int)", "int move(int,int)",
        "int cry(int,int)", "int would(int,int)", "int honey()", "int day()", "int decree()",
        "int least(int)", "int cover(int,int)", "int hush(int,int,int,int)", "int tell(int,boolean)",
        "int forget()", "int where(int)", "int ask()", "int days(int,int,int)", "int image()",
        "int restore()", "int count(int)", "long digest()"};

    private static int wrong = 0;

    private static void due(String name, boolean holds) {
        if (!holds) {
            wrong++;
            System.out.println("not as due: " + name);
        }
    }

    public static void main(String[] args) throws IOException {
        methods();
        fields();
        constructors();
        classesInside(PaidToWhisper.class);
        words();
        System.out.println(wrong == 0 ? "the face is as due" : wrong + " things are not as due");
        if (wrong != 0) {
            System.exit(1);
        }
    }

    private static String told(Method m) {
        StringBuilder s = new StringBuilder(m.getReturnType().getName()).append(' ').append(m.getName()).append('(');
        for (int i = 0; i < m.getParameterCount(); i++) {
            s.append(i == 0 ? "" : ",").append(m.getParameterTypes()[i].getName());
        }
        return s.append(')').toString();
    }

    private static void methods() {
        Set<String> seen = new TreeSet<>();
        Set<String> publicNames = new TreeSet<>();
        Set<String> privateNames = new TreeSet<>();
        for (Method m : PaidToWhisper.class.getDeclaredMethods()) {
            boolean isPrivate = Modifier.isPrivate(m.getModifiers());
            due("public or private: " + m, isPrivate || Modifier.isPublic(m.getModifiers()));
            (isPrivate ? privateNames : publicNames).add(m.getName());
            if (!isPrivate) {
                due("not static: " + m, !Modifier.isStatic(m.getModifiers()));
                seen.add(told(m));
            }
        }
        due("the methods " + seen, seen.equals(new TreeSet<>(Set.of(FACE))));
        privateNames.retainAll(publicNames);
        due("private names of public methods " + privateNames, privateNames.isEmpty());
    }

    private static void fields() {
        Set<String> seen = new TreeSet<>();
        for (Field f : PaidToWhisper.class.getDeclaredFields()) {
            int is = f.getModifiers();
            due("static and not final: " + f, !Modifier.isStatic(is) || Modifier.isFinal(is));
            if (!Modifier.isPrivate(is)) {
                due("a public int constant: " + f, Modifier.isPublic(is) && Modifier.isStatic(is) && f.getType() == int.class);
                seen.add(f.getName());
            }
        }
        due("the constants " + seen, seen.equals(new TreeSet<>(Set.of("NONE", "UNKNOWN", "OUTSIDE", "STATE", "FULL"))));
    }

    private static void constructors() {
        Constructor<?>[] all = PaidToWhisper.class.getDeclaredConstructors();
        due("one public constructor without parameters",
            all.length == 1 && all[0].getParameterCount() == 0 && Modifier.isPublic(all[0].getModifiers()));
        due("public final class", Modifier.isPublic(PaidToWhisper.class.getModifiers())
            && Modifier.isFinal(PaidToWhisper.class.getModifiers()));
    }

    private static void classesInside(Class<?> outer) {
        for (Class<?> c : outer.getDeclaredClasses()) {
            due("static and not public: " + c, Modifier.isStatic(c.getModifiers())
                && !Modifier.isPublic(c.getModifiers()) && !Modifier.isProtected(c.getModifiers()));
            int own = 0;
            for (Field f : c.getDeclaredFields()) {
                due("static and not final: " + f,
                    !Modifier.isStatic(f.getModifiers()) || Modifier.isFinal(f.getModifiers()));
                own += Modifier.isStatic(f.getModifiers()) ? 0 : 1;
            }
            due("some twenty fields: " + c, own <= 20);
        }
    }

    private static void words() throws IOException {
        String code = Files.readString(Path.of(SOURCE))
            .replaceAll("(?s)/\\*.*?\\*/", " ").replaceAll("//[^\n]*", " ");
        Matcher m = Pattern.compile("\\b(throw|throws|try|catch|finally|synchronized|assert|import|package|"
            + "System\\.(?!arraycopy)\\w+|Random|Thread|Object)\\b|->|::").matcher(code);
        while (m.find()) {
            due("a word that the language leaves out: " + m.group(), false);
        }
        for (char c : code.toCharArray()) {
            if (c > 126) {
                due("a sign above 126: " + (int) c, false);
            }
        }
    }
}
