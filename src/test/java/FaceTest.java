import java.io.IOException;
import java.lang.reflect.Constructor;
import java.lang.reflect.Field;
import java.lang.reflect.Method;
import java.lang.reflect.Modifier;
import java.nio.file.Files;
import java.nio.file.Path;
import java.util.Arrays;
import java.util.Set;
import java.util.TreeSet;
import java.util.regex.Matcher;
import java.util.regex.Pattern;

/** The public face of the document, and what of LANGUAGE.md can be read off the class and its source. */
public final class FaceTest {
    private static final Path SOURCE = Path.of("src/main/java/KingPrices.java");
    private static final String[] FACE = {
        "int type(int)", "int clear()", "int land()", "int village(int,int)", "int far(int,int)", "int owes(int,int)",
        "int goes(int)", "int stays()", "int takes(int)", "int hides(int,int)", "int shows(int,int)", "int pays(int)",
        "int sells(int,int)", "int undo()", "int now(int)", "int tour(int,int)", "int from(int)", "int had(int,int)",
        "int odds(int,int,int)", "int rests(int,int,int)", "int mixed(int,int,int)", "int ring(int)", "int net(int)",
        "int mark(int,int)", "int keep(int)", "int back(int)", "int count(int)", "long trace()",
    };
    private static final String[] REFUSED = {
        "throw", "throws", "try", "catch", "finally", "synchronized", "assert", "package", "native", "volatile",
        "hashCode", "Object", "System.out", "System.err", "System.exit", "System.currentTimeMillis", "System.nanoTime",
        "Random", "Thread", "Math.random", "String.format", "var", "Exact",
    };

    public static void main(String[] args) throws IOException {
        theFace();
        theClassesInside();
        theSource(withoutComments(Files.readString(SOURCE)));
        Check.end();
    }

    private static void theFace() {
        Class<?> c = KingPrices.class;
        Check.due("the class is public and final", c.getModifiers(), Modifier.PUBLIC | Modifier.FINAL);
        Set<String> want = new TreeSet<>(Set.of(FACE));
        Set<String> methods = new TreeSet<>();
        for (Method m : c.getDeclaredMethods()) {
            if (!Modifier.isPrivate(m.getModifiers())) {
                methods.add(m.toString().replaceAll("^public |KingPrices\\.", ""));
            }
        }
        Check.alike("the methods that can be seen", methods.toString(), want.toString());
        Set<String> fields = new TreeSet<>();
        for (Field f : c.getDeclaredFields()) {
            if (!Modifier.isPrivate(f.getModifiers())) {
                fields.add(f.toString());
            }
        }
        String form = "public static final int KingPrices.";
        Check.alike("the fields that can be seen", fields.toString(),
            new TreeSet<>(Set.of(form + "BAD", form + "STATE", form + "FULL", form + "NONE", form + "NO")).toString());
        Constructor<?>[] made = c.getDeclaredConstructors();
        Check.due("constructors", made.length, 1);
        Check.alike("the constructor", made[0].toString(), "public KingPrices()");
    }

    private static void theClassesInside() {
        Class<?>[] inside = KingPrices.class.getDeclaredClasses();
        Check.due("twelve classes at most", Math.max(12, inside.length + 1), 12);
        ofAnyClass(KingPrices.class);
        for (Class<?> c : inside) {
            Check.alike(c + " is static", Modifier.isStatic(c.getModifiers()) + "", "true");
            Check.alike(c + " can't be seen", Modifier.isPublic(c.getModifiers()) + "", "false");
            Check.due(c + " has no class inside", c.getDeclaredClasses().length, 0);
            ofAnyClass(c);
        }
    }

    private static void ofAnyClass(Class<?> c) {
        int fields = 0;
        for (Field f : c.getDeclaredFields()) {
            fields += Modifier.isStatic(f.getModifiers()) ? 0 : 1;
            boolean open = Modifier.isStatic(f.getModifiers()) && !Modifier.isFinal(f.getModifiers());
            Check.alike("a static field that isn't final", open ? f.toString() : "none", "none");
        }
        Check.due(c + ": twenty fields at most", Math.max(20, fields), 20);
        for (Method m : c.getDeclaredMethods()) {
            Check.due(m + ": seven parameters at most", Math.max(7, m.getParameterCount()), 7);
            boolean twice = Modifier.isPrivate(m.getModifiers()) && isInTheFace(m.getName());
            Check.alike("a private method by a public name", twice ? m.toString() : "none", "none");
        }
    }

    private static boolean isInTheFace(String name) {
        return Arrays.stream(FACE).anyMatch(form -> form.contains(" " + name + "("));
    }

    private static String withoutComments(String source) {
        return source.replaceAll("(?s)/\\*.*?\\*/", "").replaceAll("//[^\n]*", "");
    }

    private static void theSource(String source) {
        for (String word : REFUSED) {
            boolean found = Pattern.compile("\\b" + Pattern.quote(word) + "\\b").matcher(source).find();
            Check.alike("the source has", found ? word : "nothing refused", "nothing refused");
        }
        Check.alike("lambdas", source.contains("->") + "", "false");
        Check.alike("method references", source.contains("::") + "", "false");
        Check.alike("texts joined", source.contains("\"") + "", "false");
        Matcher imports = Pattern.compile("(?m)^import .*$").matcher(source);
        Set<String> all = new TreeSet<>();
        while (imports.find()) {
            all.add(imports.group());
        }
        Check.alike("imports", all.toString(), "[import java.util.Arrays;]");
        Check.alike("only signs 1 to 127", source.chars().allMatch(c -> c > 0 && c < 128) + "", "true");
    }
}
