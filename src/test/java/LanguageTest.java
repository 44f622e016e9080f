import java.io.IOException;
import java.lang.management.ManagementFactory;
import java.lang.reflect.Constructor;
import java.lang.reflect.Executable;
import java.lang.reflect.Field;
import java.lang.reflect.Method;
import java.lang.reflect.Modifier;
import java.nio.file.Files;
import java.nio.file.Path;
import java.util.ArrayList;
import java.util.List;
import java.util.Set;
import java.util.TreeSet;
import java.util.regex.Matcher;
import java.util.regex.Pattern;

/** The rules of LANGUAGE.md that can be seen from outside, and that no call makes an object. */
public final class LanguageTest {
    private static final Set<String> FACE = Set.of(
            "int find(int,int,int,int,int)", "int doubt(int,boolean)", "int numbers(int,int)", "int fits(int,int,int)",
            "int most(int)", "int odds(int,int,int,int)", "int atLeast(int,int,int,int)",
            "int span(int,int,int,int,int,int)", "int told(int,int,int,int)", "int far(int,int,int)",
            "int moulds(int,int)", "int thereAre(int,int)", "int can(int,int,int,int,int)", "int word(int,int,int,int)",
            "int wordless()", "int keys()", "int may(int)", "int reads(int,int,int)", "int runs(int,int)",
            "int gap(int,int,int)", "int chance(int,int)", "int said(int,int,int)", "int agent(int,int)",
            "int putRight(int,int)", "int front(int,int,int)", "int lost(int)", "int book(int,int,int,int)",
            "int held(int,int,int)", "int sign(int)", "int limb(int,int)", "int count(int)", "long digest()");
    private static final String[] FORBIDDEN = {
        "\\bthrow\\b", "\\btry\\b", "\\bcatch\\b", "\\bsynchronized\\b", "\\bassert\\b", "->", "::", "\\w+Exact\\b",
        "\\bSystem\\.(?!arraycopy\\b)\\w+", "\\bRandom\\b", "\\bThread\\b", "\\bpackage\\b", "\\bprotected\\b",
        "\\bArrays\\.(?!fill\\b|copyOf\\b|copyOfRange\\b)\\w+", "\\bMath\\.(?!max\\b|min\\b|abs\\b)\\w+",
        "\\bInteger\\.(?!compare\\b|bitCount\\b)\\w+", "\\bimport\\s+(?!java\\.util\\.Arrays;)", "\\bstatic\\s*\\{"};
    private static int wrong = 0;

    private static void must(boolean holds, String what) {
        if (!holds) {
            wrong++;
            System.out.println("not so: " + what);
        }
    }

    private static String told(Method m) {
        StringBuilder text = new StringBuilder(m.getReturnType() + " " + m.getName() + "(");
        for (int i = 0; i < m.getParameterCount(); i++) {
            text.append(i > 0 ? "," : "").append(m.getParameterTypes()[i]);
        }
        return text.append(")").toString();
    }

    private static void face() {
        Class<?> c = TankNumbers.class;
        must(Modifier.isPublic(c.getModifiers()) && Modifier.isFinal(c.getModifiers()), "public and final");
        Set<String> met = new TreeSet<>();
        for (Method m : c.getDeclaredMethods()) {
            if (Modifier.isPublic(m.getModifiers())) {
                met.add(told(m));
            } else {
                must(Modifier.isPrivate(m.getModifiers()), "private: " + m);
            }
        }
        must(met.equals(FACE), "the face is " + new TreeSet<>(FACE) + ", met " + met);
        Set<String> constants = new TreeSet<>();
        for (Field f : c.getDeclaredFields()) {
            if (Modifier.isPublic(f.getModifiers())) {
                constants.add(f.getName());
            } else {
                must(Modifier.isPrivate(f.getModifiers()), "private: " + f);
            }
        }
        must(constants.equals(Set.of("NONE", "BAD", "NO", "FULL")), "the constants, met " + constants);
        Constructor<?>[] made = c.getDeclaredConstructors();
        must(made.length == 1 && made[0].getParameterCount() == 0, "one constructor");
    }

    private static Set<String> publicNames() {
        Set<String> names = new TreeSet<>();
        for (Method m : TankNumbers.class.getDeclaredMethods()) {
            if (Modifier.isPublic(m.getModifiers())) {
                names.add(m.getName());
            }
        }
        return names;
    }

    private static void classesInside() {
        List<Class<?>> all = new ArrayList<>(List.of(TankNumbers.class.getDeclaredClasses()));
        for (Class<?> c : all) {
            must(Modifier.isStatic(c.getModifiers()) && !Modifier.isPublic(c.getModifiers()), "static, not public: " + c);
        }
        all.add(TankNumbers.class);
        must(all.size() <= 12, "twelve classes, not " + all.size());
        for (Class<?> c : all) {
            int fields = 0;
            for (Field f : c.getDeclaredFields()) {
                boolean fixed = Modifier.isStatic(f.getModifiers());
                fields += fixed ? 0 : 1;
                must(!fixed || Modifier.isFinal(f.getModifiers()), "final: " + f);
            }
            must(fields <= 20, "twenty fields in " + c + ", not " + fields);
            for (Method m : c.getDeclaredMethods()) {
                checkMethod(m, c);
            }
        }
    }

    private static void checkMethod(Method m, Class<?> c) {
        must(((Executable) m).getParameterCount() <= 7, "seven parameters: " + m);
        boolean ofFace = c == TankNumbers.class && Modifier.isPublic(m.getModifiers());
        must(ofFace || !publicNames().contains(m.getName()), "not the name of a public one: " + m);
    }

    private static void text() throws IOException {
        String source = Files.readString(Path.of("src/main/java/TankNumbers.java"));
        for (int i = 0; i < source.length(); i++) {
            must(source.charAt(i) < 128, "a plain sign at " + i);
        }
        String code = source.replaceAll("(?s)/\\*.*?\\*/", "").replaceAll("//[^\n]*", "");
        for (String pattern : FORBIDDEN) {
            Matcher m = Pattern.compile(pattern).matcher(code);
            must(!m.find(), "without " + pattern);
        }
        int start = -1;
        String[] lines = source.split("\n");
        for (int i = 0; i < lines.length; i++) {
            if (lines[i].matches("\\s+(public |private |static |final )*[\\w\\[\\]]+ ?\\w*\\([^;]*")) {
                start = lines[i].matches("\\s+(if|for|while|switch|return) .*") ? start : i;
            }
            must(start < 0 || !lines[i].matches("(    |        )\\}") || i - start <= 60, "sixty lines at " + (i + 1));
            must(!lines[i].matches(".*\\bnew\\b.*") || lines[i].matches("\\s+(/\\*\\*|\\*|//|private final).*"),
                    "made with the object: line " + (i + 1));
        }
    }

    private static int useAll(TankNumbers x, int i) {
        int sum = x.find(i % 6, i % 150, i % 30, i % 20, i % 4) + x.odds(0, 0, 1, 150) + x.atLeast(1, 0, 1, 149);
        sum += x.span(0, 0, 1, 99, 100, 1) + x.told(0, 0, 1, 1) + x.far(0, 0, 1) + x.thereAre(0, 20) + x.numbers(0, 2);
        sum += x.word(2, i % 36, i % 3, 90 + i % 9) + x.keys() + x.may(1) + x.reads(4, i % 1296, 1) + x.runs(0, 1);
        sum += x.gap(0, 30, 0) + x.chance(0, 30) + x.said(0, i, 7) + x.agent(0, 0) + x.putRight(0, 9) + x.lost(-1);
        sum += x.front(0, 1, 2) + x.book(i % 6, 1 + i % 150, 0, 1) + x.held(1, 2, 0) + x.sign(1) + x.limb(0, 0);
        return sum + x.count(1) + (int) x.digest() + x.doubt(i % 60, i % 2 == 0) + x.fits(0, 1, 2) + x.moulds(0, 1);
    }

    /** All calls of a run share one room, so no call may take any of it. */
    private static void noObjects() {
        com.sun.management.ThreadMXBean threads =
                (com.sun.management.ThreadMXBean) ManagementFactory.getThreadMXBean();
        if (!threads.isThreadAllocatedMemorySupported()) {
            return;
        }
        TankNumbers x = new TankNumbers();
        long self = Thread.currentThread().getId();
        useAll(x, 0);
        threads.getThreadAllocatedBytes(self);
        long before = threads.getThreadAllocatedBytes(self);
        long probe = threads.getThreadAllocatedBytes(self) - before;
        before = threads.getThreadAllocatedBytes(self);
        int sum = 0;
        for (int i = 1; i < 16; i++) {
            sum += useAll(x, i);
        }
        long taken = threads.getThreadAllocatedBytes(self) - before - probe;
        must(taken <= 0, "no call makes an object; taken " + taken + " bytes (" + sum + ")");
    }

    public static void main(String[] args) throws IOException {
        face();
        classesInside();
        text();
        noObjects();
        System.out.println(wrong == 0 ? "all rules hold" : wrong + " rules do not hold");
        if (wrong != 0) {
            System.exit(1);
        }
    }
}
