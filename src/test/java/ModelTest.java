import java.lang.reflect.Method;
import java.lang.reflect.Modifier;
import java.util.ArrayList;
import java.util.Arrays;
import java.util.Comparator;
import java.util.List;
import java.util.Random;

/** Runs of 500 calls by lot (from told seeds), the class beside the model: every answer must be the same. */
public final class ModelTest {
    private static final int RUNS = Integer.getInteger("runs", 1500), CALLS = 500;
    private static final int[] WILD = {-1, 0, 1, 2, 5, 6, 9, 10, 24, 25, 60, 61, 99, 100, 101, 999, 1000, 9999, 99999, 100000,
        -99999, -100000, 32768, 65535, Integer.MIN_VALUE, Integer.MAX_VALUE, -1000000005};

    private final Random lot;
    private final SandPicture x = new SandPicture();
    private final Model model = new Model();
    private final List<String> log = new ArrayList<>();
    private final List<Method> methods;
    private boolean wrong = false;

    private ModelTest(long seed, List<Method> methods) {
        lot = new Random(seed);
        this.methods = methods;
    }

    public static void main(String[] args) throws Exception {
        List<Method> methods = new ArrayList<>();
        for (Method m : SandPicture.class.getDeclaredMethods()) {
            if (Modifier.isPublic(m.getModifiers())) {
                methods.add(m);
            }
        }
        methods.sort(Comparator.comparing(Method::getName));
        int wrong = 0;
        for (int run = 0; run < RUNS && wrong < 3; run++) {
            ModelTest test = new ModelTest(run, methods);
            test.run();
            if (test.wrong) {
                wrong++;
                System.out.println("run " + run + ":");
                test.log.forEach(System.out::println);
            }
        }
        System.out.println(RUNS + " runs beside the model, " + wrong + " not alike");
        if (wrong != 0) {
            System.exit(1);
        }
    }

    private void run() throws Exception {
        for (int i = 0; i < CALLS && !wrong; i++) {
            int what = lot.nextInt(20);
            if (what == 0) {
                tellText();
            } else if (what == 1 && model.image != null) {
                tellRows();
            } else {
                Method m = methods.get(lot.nextInt(methods.size()));
                call(m.getName(), arguments(m));
            }
        }
    }

    private void call(String name, int... args) throws Exception {
        Class<?>[] types = new Class<?>[args.length];
        Arrays.fill(types, int.class);
        Object[] given = Arrays.stream(args).boxed().toArray();
        int got = (Integer) SandPicture.class.getMethod(name, types).invoke(x, given);
        int due = (Integer) Model.class.getMethod(name, types).invoke(model, given);
        log.add("  " + name + Arrays.toString(args) + " -> " + got + (got == due ? "" : ", the model says " + due));
        wrong |= got != due;
    }

    private int[] arguments(Method m) {
        int[] args = new int[m.getParameterCount()];
        for (int i = 0; i < args.length; i++) {
            args[i] = argument(m.getName(), i);
        }
        return args;
    }

    private int argument(String name, int i) {
        int how = lot.nextInt(40);
        if (how == 0) {
            return WILD[lot.nextInt(WILD.length)];
        }
        if (how == 1) {
            return lot.nextInt();
        }
        int[] most = mostOf(name);
        return most[i] < 0 ? lot.nextInt(2 - most[i]) - 1 : lot.nextInt(most[i] + 1);
    }

    /** The greatest argument that is taken often; below 0: from -1 on, up to that without its sign. */
    private int[] mostOf(String name) {
        int monks = Math.max(0, model.s.monks.size() - 1);
        switch (name) {
            case "monk": return new int[] {5, lot.nextBoolean() ? 99 : 20, 5};
            case "told": return new int[] {monks, 3};
            case "does": return new int[] {monks, 2, lot.nextInt(3) == 0 ? 999 : 9};
            case "as": case "turns": return new int[] {monks, 5};
            case "set": return new int[] {monks, 2, lot.nextBoolean() ? 5 : 99};
            case "table": return new int[] {5, 3};
            case "need": return new int[] {5, lot.nextInt(4) == 0 ? 999 : 30};
            case "river": return new int[] {2, lot.nextInt(4) == 0 ? 99999 : 400};
            case "wind": return new int[] {100};
            case "deal": return new int[] {3};
            case "hours": return new int[] {lot.nextInt(4) == 0 ? 100 : 8};
            case "grains": case "count": return new int[] {7};
            case "sneeze": return new int[] {5};
            case "behind": return new int[] {100, 3};
            case "lacks": return new int[] {100};
            case "dry": case "why": return new int[] {2};
            case "goes": return new int[] {monks, 60, 1};
            case "blamed": return new int[] {60};
            case "slower": return new int[] {monks, 20};
            case "paced": return new int[] {3, monks, 1};
            case "trim": return new int[] {model.tape.length()};
            case "textTold": return new int[] {Math.max(0, model.s.laws.size() - 1), 1};
            case "sheet": return new int[] {3, -1, lot.nextBoolean() ? 24 : 8};
            case "mark": return new int[] {3, 12, lot.nextInt(3) == 0 ? 99999 : 120};
            case "pour": case "reads": return new int[] {3};
            case "copy": return new int[] {3, 8, 3, 8, -6};
            case "lay": return new int[] {4, 3, 3};
            case "ask": return new int[] {4, 5};
            case "item": return new int[] {4, 12};
            case "rest": return new int[] {4, -9};
            case "check": return new int[] {30};
            default: return new int[] {1000000, 1000000, 1000000, 1000000, 1000000};
        }
    }

    private void tellText() throws Exception {
        String key = new String[] {"pour", "back", "fine"}[lot.nextInt(3)];
        String names = key.equals("pour") ? "pdx" : key.equals("back") ? "dfw" : "hs";
        StringBuilder t = new StringBuilder(key + (lot.nextInt(30) == 0 ? "" : " "));
        expression(t, names, lot.nextInt(5));
        if (lot.nextInt(25) == 0) {
            t.setLength(4);
            nested(t, names);
        }
        for (int i = lot.nextInt(6); i < 2 && t.length() > 0; i++) {
            String signs = "()!|&<=>+-*/ 019pdxfwhsaz%A";
            int place = lot.nextInt(t.length());
            if (lot.nextBoolean()) {
                t.insert(place, signs.charAt(lot.nextInt(signs.length())));
            } else {
                t.deleteCharAt(place);
            }
        }
        call("trim", 0);
        t.setLength(Math.min(t.length(), 96));
        String bytes = t.toString();
        while (t.length() % 12 != 0) {
            t.append(' ');
        }
        log.add("  [" + bytes + "]");
        for (int i = 0; i < t.length(); i += 12) {
            call("feed", four(t, i), four(t, i + 4), four(t, i + 8));
        }
        call("trim", bytes.length());
        call("text");
    }

    private static int four(CharSequence s, int at) {
        return s.charAt(at) << 24 | s.charAt(at + 1) << 16 | s.charAt(at + 2) << 8 | s.charAt(at + 3);
    }

    private void nested(StringBuilder t, String names) {
        int shut = 0;
        for (int i = 0; i < 20; i++) {
            boolean paren = lot.nextBoolean();
            t.append(paren ? '(' : '!');
            shut += paren ? 1 : 0;
        }
        t.append(names.charAt(0)).append(")".repeat(shut));
    }

    private void expression(StringBuilder t, String names, int depth) {
        int parts = 1 + lot.nextInt(3);
        for (int i = 0; i < parts; i++) {
            if (i > 0) {
                t.append("|&<=>+-*/+-*/".charAt(lot.nextInt(13)));
            }
            if (lot.nextInt(4) == 0) {
                t.append(' ');
            }
            int what = lot.nextInt(8);
            if (what == 0) {
                t.append('!');
            }
            if (what < 3 && depth > 0) {
                t.append('(');
                expression(t, names, depth - 1);
                t.append(')');
            } else if (what < 6) {
                t.append(names.charAt(lot.nextInt(names.length())));
            } else {
                t.append(lot.nextInt(lot.nextInt(6) == 0 ? 20000 : 30));
            }
        }
    }

    private void tellRows() throws Exception {
        int n = 1 + lot.nextInt(30);
        List<Integer> due = model.dueRows(n);
        int off = lot.nextInt(8);
        for (int i = 0; i < due.size() - (off == 1 ? 1 : 0); i++) {
            call("tell", due.get(i) + (off == 2 && lot.nextInt(20) == 0 ? 1 : 0));
        }
        if (off == 3) {
            call("tell", 5);
        }
        call("check", n);
    }
}
