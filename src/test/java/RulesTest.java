import java.lang.reflect.Constructor;
import java.lang.reflect.Field;
import java.lang.reflect.Method;
import java.lang.reflect.Modifier;
import java.nio.file.Files;
import java.nio.file.Path;
import java.util.Set;
import java.util.TreeSet;
import java.util.regex.Matcher;
import java.util.regex.Pattern;

/** The public face, and the rules of LANGUAGE.md that can be seen by reflection or in the source's words. */
public final class RulesTest {
    private static final Due DUE = new Due();
    private static final String FACE = "monk 3, told 2, does 3, as 2, turns 2, set 3, table 2, need 2, river 2, wind 1, deal 1, seed 1, hours 1, "
        + "grains 1, sneeze 1, behind 2, lacks 1, dry 1, goes 3, blamed 1, never 0, slower 2, paced 3, fine 0, feed 3, trim 1, text 0, "
        + "textTold 2, why 1, sheet 3, mark 3, pour 1, reads 1, copy 5, lay 3, ask 2, item 2, rest 2, tell 1, check 1, keep 0, back 0, count 1";
    private static final String CONSTANTS = "BAD NO FULL NONE NOTHING KIND INDEX SIZE";

    public static void main(String[] args) throws Exception {
        DUE.part("face");
        face();
        constants();
        DUE.part("classes");
        for (Class<?> c : SandPicture.class.getDeclaredClasses()) {
            insideClass(c);
        }
        DUE.part("words");
        words(Files.readString(Path.of(System.getProperty("source", "src/main/java/SandPicture.java"))));
        DUE.end();
    }

    private static void face() {
        Set<String> due = new TreeSet<>(Set.of(FACE.split(", ")));
        Set<String> got = new TreeSet<>();
        for (Method m : SandPicture.class.getDeclaredMethods()) {
            if (Modifier.isPublic(m.getModifiers())) {
                got.add(m.getName() + " " + m.getParameterCount());
                DUE.is(m.getName() + " answers an int", m.getReturnType() == int.class ? 1 : 0, 1);
                DUE.is(m.getName() + " is no static", Modifier.isStatic(m.getModifiers()) ? 1 : 0, 0);
            } else {
                DUE.is(m.getName() + " is private", Modifier.isPrivate(m.getModifiers()) ? 1 : 0, 1);
                DUE.is(m.getName() + " is no public name", FACE.matches(".*\\b" + m.getName() + " .*") ? 1 : 0, 0);
            }
        }
        DUE.is("the methods " + got, got.equals(due) ? 1 : 0, 1);
        Constructor<?>[] all = SandPicture.class.getDeclaredConstructors();
        DUE.is("constructors", all.length, 1);
        DUE.is("constructor's arguments", all[0].getParameterCount(), 0);
        DUE.is("final", Modifier.isFinal(SandPicture.class.getModifiers()) ? 1 : 0, 1);
    }

    private static void constants() {
        for (Field f : SandPicture.class.getDeclaredFields()) {
            boolean constant = Set.of(CONSTANTS.split(" ")).contains(f.getName());
            DUE.is(f.getName() + " is public", Modifier.isPublic(f.getModifiers()) ? 1 : 0, constant ? 1 : 0);
            DUE.is(f.getName() + " is private", Modifier.isPrivate(f.getModifiers()) ? 1 : 0, constant ? 0 : 1);
            if (Modifier.isStatic(f.getModifiers())) {
                DUE.is(f.getName() + " is final", Modifier.isFinal(f.getModifiers()) ? 1 : 0, 1);
            }
        }
        int[] due = {-1000000001, -1000000002, -1000000003, -1000000005, -1000000011, -1000000012, -1000000013, -1000000014};
        int[] got = {SandPicture.BAD, SandPicture.NO, SandPicture.FULL, SandPicture.NONE,
            SandPicture.NOTHING, SandPicture.KIND, SandPicture.INDEX, SandPicture.SIZE};
        for (int i = 0; i < due.length; i++) {
            DUE.is("constant " + i, got[i], due[i]);
        }
    }

    private static void insideClass(Class<?> c) {
        DUE.is(c + " is static", Modifier.isStatic(c.getModifiers()) ? 1 : 0, 1);
        DUE.is(c + " is public", Modifier.isPublic(c.getModifiers()) ? 1 : 0, 0);
        int fields = 0;
        for (Field f : c.getDeclaredFields()) {
            if (Modifier.isStatic(f.getModifiers())) {
                DUE.is(f + " is final", Modifier.isFinal(f.getModifiers()) ? 1 : 0, 1);
            } else {
                fields++;
            }
        }
        DUE.is(c + " has few fields", fields <= 20 ? 1 : 0, 1);
        for (Method m : c.getDeclaredMethods()) {
            DUE.is(m + " has few parameters", m.getParameterCount() <= 7 ? 1 : 0, 1);
            DUE.is(m + " is no public name", FACE.matches(".*\\b" + m.getName() + " .*") ? 1 : 0, 0);
        }
    }

    private static void words(String source) {
        String code = source.replaceAll("(?s)/\\*.*?\\*/", "").replaceAll("//[^\n]*", "");
        String[] banned = {"\\bthrow\\b", "\\btry\\b", "\\bcatch\\b", "\\bsynchronized\\b", "\\bassert\\b", "\\bprotected\\b", "->", "::",
            "Exact\\b", "\\bThread\\b", "\\bRandom\\b", "\\bpackage\\b", "\\bvar\\b", "\\bhashCode\\b", "\\btoString\\b", "\\.equals\\b",
            "System\\.(?!arraycopy)", "\\bimport\\b", "\\bdouble\\b", "\\bfloat\\b", "\\bnull\\b", "static\\s*\\{", "[^\\x00-\\x7f]"};
        for (String b : banned) {
            Matcher m = Pattern.compile(b).matcher(code);
            DUE.is(b + " in the source", m.find() ? 1 : 0, 0);
        }
        Matcher classes = Pattern.compile("\\b(class|enum|record|interface) \\w+").matcher(code);
        int many = 0;
        while (classes.find()) {
            many++;
        }
        DUE.is("few classes", many <= 12 ? 1 : 0, 1);
        String[] lines = source.split("\n");
        int began = 0;
        String name = "";
        for (int i = 0; i < lines.length; i++) {
            if (lines[i].matches("( {4}| {8})[\\w\\[\\] ]+\\([^;]*\\) \\{")) {
                began = i;
                name = lines[i].trim();
            } else if (lines[i].matches("( {4}| {8})\\}")) {
                DUE.is(name + " is short", i - began <= 60 || !name.contains("(") ? 1 : 0, 1);
                name = "";
            }
        }
    }
}
