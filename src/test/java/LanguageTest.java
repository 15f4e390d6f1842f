import java.lang.reflect.Constructor;
import java.lang.reflect.Field;
import java.lang.reflect.Method;
import java.lang.reflect.Modifier;
import java.nio.file.Files;
import java.nio.file.Path;
import java.util.Arrays;
import java.util.TreeSet;
import java.util.regex.Matcher;
import java.util.regex.Pattern;

/** The face of the class, and the rules of LANGUAGE.md that can be read off its source. */
public final class LanguageTest {
    private static final String[] FACE = {
        "int sign(int)", "long told(int,int)", "int worth(int,int)", "int goes(int,int,int)", "int like(int,int,int)",
        "int pace(int)", "int feed(int,long)", "int text()", "int force(int)", "int plan()", "int planned(int,int,int)",
        "long trial(int,int)", "long sum(int,int)", "int days(int,int)", "int rests(int,int)", "int blocked(int)",
        "long counted(int,int,int)", "int watched(int,int,int)", "int lets(int,int)", "int thrownOut(int)",
        "int next(int,int,int)", "int near(int,int,int,int,int)", "int image()", "int back()", "int count(int)",
        "int sheet(int,int,int)", "int cell(int,int,int)", "int copy(int,int,int,int,int)", "int trials(int,int,int,int)",
        "int taken(int,int)"};

    public static void main(String[] args) throws Exception {
        face();
        membersInside();
        source(Files.readString(Path.of(System.getProperty("project.root", "."), "src/main/java/BellAndDrop.java")));
        Due.end();
    }

    private static void no(String what, boolean wrong) {
        Due.is(what, wrong ? 1 : 0, 0);
    }

    private static String signature(Method m) {
        StringBuilder b = new StringBuilder(m.getReturnType().getName() + " " + m.getName() + "(");
        String between = "";
        for (Class<?> c : m.getParameterTypes()) {
            b.append(between).append(c.getName());
            between = ",";
        }
        return b + ")";
    }

    private static void face() {
        TreeSet<String> publics = new TreeSet<>();
        for (Method m : BellAndDrop.class.getDeclaredMethods()) {
            if (Modifier.isPublic(m.getModifiers())) {
                publics.add(signature(m));
            } else {
                no("not private: " + m, !Modifier.isPrivate(m.getModifiers()) && !m.isSynthetic());
            }
        }
        TreeSet<String> due = new TreeSet<>(Arrays.asList(FACE));
        for (String s : due) {
            no("the face lacks " + s, !publics.contains(s));
        }
        for (String s : publics) {
            no("the face has more: " + s, !due.contains(s));
        }
        int constants = 0;
        for (Field f : BellAndDrop.class.getDeclaredFields()) {
            if (!Modifier.isPrivate(f.getModifiers())) {
                constants++;
                no("no constant of the face: " + f, !Arrays.asList("NONE", "BAD", "STATE", "FULL", "NO").contains(f.getName())
                    || !Modifier.isFinal(f.getModifiers()) || !Modifier.isStatic(f.getModifiers()));
            }
        }
        Due.is("constants", constants, 5);
        Constructor<?>[] made = BellAndDrop.class.getDeclaredConstructors();
        Due.is("constructors", made.length, 1);
        no("the class is not final", !Modifier.isFinal(BellAndDrop.class.getModifiers()));
    }

    private static void membersInside() {
        TreeSet<String> publicNames = new TreeSet<>();
        for (String s : FACE) {
            publicNames.add(s.substring(s.indexOf(' ') + 1, s.indexOf('(')));
        }
        Class<?>[] inside = BellAndDrop.class.getDeclaredClasses();
        no("too many classes", inside.length + 1 > 12);
        for (Class<?> c : inside) {
            no("not static: " + c, !Modifier.isStatic(c.getModifiers()));
            no("public or protected: " + c, Modifier.isPublic(c.getModifiers()) || Modifier.isProtected(c.getModifiers()));
            int fields = 0;
            for (Field f : c.getDeclaredFields()) {
                fields += Modifier.isStatic(f.getModifiers()) ? 0 : 1;
                no("static, not final: " + f, Modifier.isStatic(f.getModifiers()) && !Modifier.isFinal(f.getModifiers()));
            }
            no("too many fields: " + c, fields > 20);
            for (Method m : c.getDeclaredMethods()) {
                no("bears a public name: " + m, publicNames.contains(m.getName()));
                no("too many parameters: " + m, m.getParameterCount() > 7);
            }
        }
        for (Method m : BellAndDrop.class.getDeclaredMethods()) {
            no("bears a public name: " + m, Modifier.isPrivate(m.getModifiers()) && publicNames.contains(m.getName()));
        }
    }

    private static void source(String text) {
        String bare = text.replaceAll("(?s)/\\*.*?\\*/", "").replaceAll("//[^\n]*", "").replaceAll("\"[^\"\n]*\"", "\"\"");
        Matcher words = Pattern.compile("\\b(throw|throws|try|catch|synchronized|assert|native|volatile|transient|double|float"
            + "|var|record|yield|package|hashCode|equals|toString|\\w+Exact)\\b|->|::").matcher(bare);
        while (words.find()) {
            no("in the source: " + words.group(), true);
        }
        Matcher imports = Pattern.compile("import ([^;]*);").matcher(bare);
        while (imports.find()) {
            no("import of " + imports.group(1), !imports.group(1).equals("java.util.Arrays"));
        }
        Matcher library = Pattern.compile("\\b(Arrays|Math|System|Integer|Long|String)\\.(\\w+)").matcher(bare);
        while (library.find()) {
            no("call of " + library.group(), !library.group(2).matches("arraycopy|copyOf|fill|max|min|abs"));
        }
        for (char c : text.toCharArray()) {
            if (c > 127) {
                no("a sign above 127", true);
            }
        }
        methodsAreShort(bare);
    }

    private static void methodsAreShort(String bare) {
        String[] lines = bare.split("\n");
        int begun = -1;
        String indent = "";
        for (int i = 0; i < lines.length; i++) {
            Matcher m = Pattern.compile("^( {4}| {8})(?! )[\\w<>\\[\\], ]+\\([^;]*\\) \\{$").matcher(lines[i]);
            if (begun < 0 && m.find() && !lines[i].contains("class ")) {
                begun = i;
                indent = m.group(1);
            } else if (begun >= 0 && lines[i].equals(indent + "}")) {
                no("long: " + lines[begun], i - begun + 1 > 60);
                begun = -1;
            }
        }
    }
}
