import java.io.IOException;
import java.lang.reflect.Constructor;
import java.lang.reflect.Field;
import java.lang.reflect.Method;
import java.lang.reflect.Modifier;
import java.nio.file.Files;
import java.nio.file.Path;
import java.util.Arrays;
import java.util.List;
import java.util.Set;
import java.util.TreeSet;
import java.util.regex.Matcher;
import java.util.regex.Pattern;

/** The class has the document's face and no other, and its file keeps to those rules of the language that a scan can see. */
public final class FaceTest {
    private static final String[] FACE = {
        "int feed(int,int,int,int,int)", "boolean end(int)", "int fault(int)", "int text(int)", "int rule(int)",
        "int glove(int,int)", "int matter(int,int)", "int warmth(int,int)", "boolean law(int)", "int meets(int,int)",
        "int loosen(int)", "int stuff(int,int)", "int swallow()", "int tear(int)", "int give(int)", "int days(int)",
        "boolean spite(int)", "int years(int,long)", "int status(int)", "int undo()", "int log(int,int)",
        "int rises(int,int)", "int later(int,int,int)", "int soonest(int,int)", "int pairs(int)", "int allKnow()",
        "int seen(int,int,int,boolean)", "int fits(int,int)", "int ask(int,int)", "int game(int,int,int)",
        "int sure(int)", "int rests(int)", "int odds(int,int,int,int,int)", "int shares(int,int)", "int most(int)",
        "int allies(int)", "int image()", "int back()", "int count(int)"};
    private static final String[] FORBIDDEN = {
        "->", "::", "\\bcatch\\b", "\\btry\\b", "\\bfinally\\b", "\\bsynchronized\\b", "\\bassert\\b", "Exact\\(",
        "\\bstatic\\s*\\{", "\\bvar\\b", "\\bObject\\b", "\\bSystem\\.(?!arraycopy)", "\\bMath\\.(?!max|min|abs)",
        "\\bString\\b", "hashCode", "equals\\(", "toString"};
    private static int wrong = 0;

    public static void main(String[] args) throws IOException {
        members();
        file(Files.readString(Path.of("src/main/java/GloveHouses.java")));
        System.out.println(wrong == 0 ? "the face is the document's" : wrong + " faults of the face");
        if (wrong != 0) System.exit(1);
    }

    private static void check(boolean right, String what) {
        if (!right) {
            wrong++;
            System.out.println(what);
        }
    }

    private static String told(Method m) {
        StringBuilder types = new StringBuilder();
        for (Class<?> t : m.getParameterTypes()) types.append(types.length() == 0 ? "" : ",").append(t.getName());
        return m.getReturnType().getName() + " " + m.getName() + "(" + types + ")";
    }

    private static void members() {
        Class<?> c = GloveHouses.class;
        check(Modifier.isPublic(c.getModifiers()) && Modifier.isFinal(c.getModifiers()), "the class is public and final");
        Set<String> open = new TreeSet<>();
        Set<String> names = new TreeSet<>();
        for (Method m : c.getDeclaredMethods()) {
            if (Modifier.isPublic(m.getModifiers())) {
                open.add(told(m));
                names.add(m.getName());
                check(!Modifier.isStatic(m.getModifiers()), m + " is static");
            } else {
                check(Modifier.isPrivate(m.getModifiers()), m + " is neither public nor private");
            }
        }
        check(open.equals(new TreeSet<>(Arrays.asList(FACE))), "the face is " + open);
        for (Field f : c.getDeclaredFields()) {
            boolean constant = List.of("NONE", "HIDDEN").contains(f.getName());
            check(constant ? Modifier.isPublic(f.getModifiers()) : Modifier.isPrivate(f.getModifiers()), f + "");
        }
        Constructor<?>[] made = c.getDeclaredConstructors();
        check(made.length == 1 && Modifier.isPublic(made[0].getModifiers()) && made[0].getParameterCount() == 0, "one constructor");
        check(c.getDeclaredClasses().length < 12, "at most twelve classes");
        privates(c, names);
        for (Class<?> in : c.getDeclaredClasses()) {
            check(Modifier.isStatic(in.getModifiers()) && !Modifier.isPublic(in.getModifiers()), in + "");
            privates(in, names);
        }
    }

    private static void privates(Class<?> c, Set<String> names) {
        int fields = 0;
        for (Field f : c.getDeclaredFields()) {
            if (Modifier.isStatic(f.getModifiers())) check(Modifier.isFinal(f.getModifiers()), f + " is static, not final");
            else fields++;
        }
        check(fields <= 20, c + " has " + fields + " fields");
        for (Method m : c.getDeclaredMethods()) {
            check(m.getParameterCount() <= 7, m + " takes too many");
            check(Modifier.isPublic(m.getModifiers()) || !names.contains(m.getName()), m + " bears a public name");
        }
    }

    private static void file(String source) {
        String code = source.replaceAll("(?s)/\\*.*?\\*/", "").replaceAll("//[^\n]*", "").replaceAll("\"[^\"\n]*\"", "\"\"");
        for (String word : FORBIDDEN) check(!Pattern.compile(word).matcher(code).find(), "the file has " + word);
        Matcher imports = Pattern.compile("import ([^;]*);").matcher(code);
        while (imports.find()) check(imports.group(1).equals("java.util.NoSuchElementException"), imports.group());
        int start = 0;
        String[] lines = source.split("\n");
        for (int i = 0; i < lines.length; i++) {
            if (lines[i].matches(" {4,8}[a-zA-Z].*\\{") && !lines[i].contains(" class ")) start = i;
            if (lines[i].matches(" {4,8}\\}")) check(i - start < 60, "a method of " + (i - start) + " lines at " + (i + 1));
            check(lines[i].length() <= 120, "line " + (i + 1) + " is long");
            for (char c : lines[i].toCharArray()) check(c < 128, "line " + (i + 1) + " has a sign above 127");
        }
    }
}
