import java.lang.reflect.Method;
import java.util.TreeMap;

/** Each promise, 1 to 44, and each head of the terms, 0 (refusals) to 5, has cases of its edges. */
public final class EdgesCoverTest extends Cases {
    private static final Class<?>[] FILES = {EdgesMonksTest.class, EdgesHoursTest.class, EdgesThoughtTest.class, EdgesTextsTest.class,
        EdgesSheetsTest.class, EdgesRowsTest.class};

    public static void main(String[] args) throws ReflectiveOperationException {
        run(EdgesCoverTest.class);
    }

    private static int casesWith(String head) {
        TreeMap<String, Integer> many = new TreeMap<>();
        for (Class<?> file : FILES) {
            for (Method m : casesOf(file)) {
                many.merge(m.getName().replaceFirst("_.*", ""), 1, Integer::sum);
            }
        }
        return many.getOrDefault(head, 0);
    }

    static void t0_eachPromiseHasCases() {
        for (int p = 1; p <= 44; p++) {
            String head = p < 10 ? "p0" + p : "p" + p;
            is(head + " has cases", casesWith(head) > 0 ? 1 : 0, 1);
        }
    }

    static void t0_eachHeadHasCases() {
        for (int t = 0; t <= 5; t++) {
            is("t" + t + " has cases", casesWith("t" + t) > 0 ? 1 : 0, 1);
        }
    }

    static void t0_noCaseIsMisspelt() {
        for (Class<?> file : FILES) {
            for (Method m : file.getDeclaredMethods()) {
                boolean looksLikeOne = !m.isSynthetic() && m.getName().indexOf('_') >= 0;
                boolean isOne = m.getName().matches("(p\\d\\d|t\\d)_\\w+") && m.getParameterCount() == 0;
                is(m.getName(), looksLikeOne && !isOne ? 1 : 0, 0);
            }
        }
    }
}
