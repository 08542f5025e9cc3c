import java.lang.reflect.Constructor;
import java.lang.reflect.Field;
import java.lang.reflect.Member;
import java.lang.reflect.Method;
import java.lang.reflect.Modifier;
import java.nio.charset.StandardCharsets;
import java.nio.file.Files;
import java.nio.file.Path;
import java.util.ArrayList;
import java.util.List;
import java.util.Set;
import java.util.TreeSet;
import java.util.regex.Pattern;

/** The public face, and those rules of LANGUAGE.md that can be looked up simply. */
final class FaceTest {
    private static final String[] FACE = {
        "int type(int,int)", "int issue(int,int,int,int)", "int pack(int,int,int)",
        "int trip(int,boolean)", "int close(int)", "int sell(int,int,int)", "int undo()",
        "int sheet(int,int,int)", "int lay(int,int,int)", "int scan(int,int,int,int,int)",
        "int waybill(int,int,int)", "int money(int)", "int paid(int,int)",
        "int aboard(int,int,int)", "int riders(boolean,int,int)", "int shown(int,int,int,int)",
        "int heads(int,int,int)", "int gap(int)", "int feed(long)", "int end(int)", "int laws()",
        "int fault()", "int fare(int,int)", "int change(int,int)", "int duty(int,int)",
        "int rest(int)", "int crew(int)", "int crews(int)", "int ill(int)", "int count(int)"};

    public static void main(String[] args) throws Exception {
        constants();
        members();
        nested();
        words();
        Check.finish();
    }

    private static void constants() {
        Check.due("BAD", TramPence.BAD, -1);
        Check.due("STATE", TramPence.STATE, -2);
        Check.due("FULL", TramPence.FULL, -3);
        Check.due("NONE", TramPence.NONE, -4);
    }

    private static void members() {
        Set<String> due = new TreeSet<>(List.of(FACE));
        Set<String> found = new TreeSet<>();
        Set<String> names = new TreeSet<>();
        for (Method m : TramPence.class.getDeclaredMethods()) {
            if (!Modifier.isPrivate(m.getModifiers())) {
                found.add(told(m));
                names.add(m.getName());
                Check.holds(m + " is public, not static", isPublicOnly(m));
            }
        }
        Check.holds("the face is " + due + ", found " + found, due.equals(found));
        for (Class<?> c : allClasses()) {
            for (Method m : c.getDeclaredMethods()) {
                boolean own = c == TramPence.class && !Modifier.isPrivate(m.getModifiers());
                Check.holds(m + " bears no public name", own || !names.contains(m.getName()));
                Check.holds(m + " has few parameters", m.getParameterCount() <= 7);
            }
        }
        Set<String> constants = Set.of("BAD", "STATE", "FULL", "NONE");
        for (Field f : TramPence.class.getDeclaredFields()) {
            boolean isPrivate = Modifier.isPrivate(f.getModifiers());
            Check.holds(f + " is private or a constant", isPrivate != constants.contains(f.getName()));
        }
        Constructor<?>[] made = TramPence.class.getDeclaredConstructors();
        Check.due("constructors", made.length, 1);
        Check.holds("a public constructor without parameters",
                Modifier.isPublic(made[0].getModifiers()) && made[0].getParameterCount() == 0);
        int m = TramPence.class.getModifiers();
        Check.holds("public final class", Modifier.isPublic(m) && Modifier.isFinal(m));
    }

    private static void nested() {
        List<Class<?>> all = allClasses();
        Check.holds("some twelve classes at most", all.size() <= 12);
        for (Class<?> c : all) {
            if (c != TramPence.class) {
                int m = c.getModifiers();
                Check.holds(c + " is static, not public",
                        Modifier.isStatic(m) && !Modifier.isPublic(m) && !Modifier.isProtected(m));
            }
            int fields = 0;
            for (Field f : c.getDeclaredFields()) {
                boolean isStatic = Modifier.isStatic(f.getModifiers());
                fields += isStatic ? 0 : 1;
                Check.holds(f + " is final if static",
                        !isStatic || Modifier.isFinal(f.getModifiers()));
            }
            Check.holds(c + " has some twenty fields at most", fields <= 20);
        }
    }

    private static void words() throws Exception {
        byte[] bytes = Files.readAllBytes(Path.of("src/main/java/TramPence.java"));
        String text = new String(bytes, StandardCharsets.ISO_8859_1);
        String code = text.replaceAll("(?s)/\\*.*?\\*/", "").replaceAll("//[^\n]*", "");
        String[] ruledOut = {"throw", "throws", "try", "catch", "finally", "synchronized", "assert",
            "import", "package", "var", "native", "volatile", "transient", "protected", "System",
            "Thread", "Object", "equals", "hashCode", "toString"};
        for (String word : ruledOut) {
            Check.holds("no " + word, !Pattern.compile("\\b" + word + "\\b").matcher(code).find());
        }
        Check.holds("no lambda", !code.contains("->"));
        Check.holds("no method reference", !code.contains("::"));
        Check.holds("signs 1 to 127", text.chars().allMatch(c -> c >= 1 && c <= 127));
    }

    private static List<Class<?>> allClasses() {
        List<Class<?>> all = new ArrayList<>();
        all.add(TramPence.class);
        all.addAll(List.of(TramPence.class.getDeclaredClasses()));
        return all;
    }

    private static boolean isPublicOnly(Member m) {
        return Modifier.isPublic(m.getModifiers()) && !Modifier.isStatic(m.getModifiers());
    }

    private static String told(Method m) {
        StringBuilder s = new StringBuilder();
        s.append(m.getReturnType().getName()).append(' ').append(m.getName()).append('(');
        for (int i = 0; i < m.getParameterCount(); i++) {
            s.append(i == 0 ? "" : ",").append(m.getParameterTypes()[i].getName());
        }
        return s.append(')').toString();
    }
}
