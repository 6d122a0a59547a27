import java.lang.reflect.Method;
import java.lang.reflect.Modifier;
import java.util.Arrays;
import java.util.Comparator;
import java.util.Set;
import java.util.TreeSet;

/**
 * What the Edges files stand on. Each static method of them is one sentence of the document that names a boundary case:
 * pNN_.. is of promise NN, tN_.. of head N of the terms (t0_.. of what the terms say of refusals and of numbers).
 */
abstract class Cases {
    static final int BAD = SandPicture.BAD, NO = SandPicture.NO, FULL = SandPicture.FULL, NONE = SandPicture.NONE,
            NOTHING = SandPicture.NOTHING, KIND = SandPicture.KIND, INDEX = SandPicture.INDEX, SIZE = SandPicture.SIZE;
    static final int LOW = Integer.MIN_VALUE, HIGH = Integer.MAX_VALUE;
    static final int MONK = 0, SLOW = 1, NOVICE = 2, OLD = 3, PROUD = 4, GUEST = 5;
    private static final Due DUE = new Due();

    /** A call whose answer is looked at. */
    interface Act {
        int on(SandPicture x);
    }

    /** A call with one argument that is tried at its bounds. */
    interface ActWith {
        int on(SandPicture x, int v);
    }

    /** Runs every case of a file, so that none can be forgotten; a case that looks at no answer is wrong. */
    static void run(Class<?> file) throws ReflectiveOperationException {
        for (Method m : casesOf(file)) {
            DUE.part(m.getName());
            int asked = DUE.asked();
            m.setAccessible(true);
            m.invoke(null);
            is("answers were looked at", DUE.asked() > asked ? 1 : 0, 1);
        }
        DUE.end();
    }

    static Method[] casesOf(Class<?> file) {
        return Arrays.stream(file.getDeclaredMethods())
            .filter(m -> Modifier.isStatic(m.getModifiers()) && m.getName().matches("(p\\d\\d|t\\d)_\\w+"))
            .sorted(Comparator.comparing(Method::getName)).toArray(Method[]::new);
    }

    static void is(String call, long got, long want) {
        DUE.is(call, got, want);
    }

    /** A picture without draughts: what MONKS of KIND MONK do in it is not left to lot. */
    static SandPicture calm() {
        SandPicture x = new SandPicture();
        x.wind(0);
        return x;
    }

    /** A calm picture with MONKS of KIND MONK, one at each of the told TABLES, all of one PACE. */
    static SandPicture calmWith(int pace, int... tables) {
        SandPicture x = calm();
        for (int t : tables) {
            x.monk(MONK, pace, t);
        }
        return x;
    }

    /** Brings a picture to an HOUR of 9900 or more. */
    static void passTo(SandPicture x, int hour) {
        for (int i = 0; i < 99; i++) {
            x.hours(100);
        }
        x.hours(hour - 9900);
        is("the hour", x.count(1), hour);
    }

    /** The document's draw, in long numbers: what is above 32 bits falls away, and none is below 0. */
    static int drawn(int[] z) {
        long next = ((z[0] & 0xffffffffL) * 1103515245L + 12345L) & 0xffffffffL;
        z[0] = (int) next;
        return (int) (next >> 8);
    }

    /** A z from which, with as many MONKS, the draught of an HOUR blows from a told TABLE (if WIND is 100). */
    static int seedThatBlowsFrom(int table, int monks) {
        for (int seed = 0; seed < 100000; seed++) {
            int[] z = {seed};
            for (int i = 0; i <= monks; i++) {
                drawn(z);
            }
            if (drawn(z) % 6 == table) {
                return seed;
            }
        }
        return 0;
    }

    /** BAD right outside low .. high and far outside, with nothing changed; within them any other answer. */
    static void range(String name, int low, int high, ActWith act) {
        Set<Integer> tried = new TreeSet<>(Set.of(LOW, LOW + 1, HIGH - 1, HIGH, low - 2, low - 1, low, high, high + 1, high + 2,
            low - 256, high + 256, low - 65536, high + 65536, BAD, KIND));
        for (int v = low; v <= high && v <= low + 120; v++) {
            tried.add(v);
        }
        for (int v : tried) {
            if (v < low || v > high) {
                refused(name + " " + v, BAD, x -> act.on(x, v));
            } else {
                is(name + " " + v + " is fine", act.on(Twins.rich(), v) == BAD ? 1 : 0, 0);
            }
        }
    }

    /** The rich picture refuses the call with this answer, and all is as if it had not been made. */
    static void refused(String call, int want, Act act) {
        SandPicture one = Twins.rich();
        is(call, act.on(one), want);
        alike(call + " changes nothing", one, Twins.rich());
    }

    /** The rich picture answers the call, not with BAD, and all is as if it had not been made. */
    static void onlyTells(String call, Act act) {
        SandPicture one = Twins.rich();
        is(call + " is not refused", act.on(one) == BAD ? 1 : 0, 0);
        alike(call + " changes nothing", one, Twins.rich());
    }

    /** All that can be seen of two pictures is the same; both are used up by it. */
    static void alike(String what, SandPicture one, SandPicture other) {
        int[] a = Twins.seen(one);
        int[] b = Twins.seen(other);
        is(what + ": as many answers", a.length, b.length);
        is(what + ": the first answer that differs", Arrays.mismatch(a, b), -1);
    }

    /** Tells a text to a new picture: its number, or its FAULT. */
    static int newText(String bytes) {
        return Due.text(new SandPicture(), bytes);
    }

    /** What fine gives by a text, where neither THE HOUR (3) nor SPILT (30) is 0: so no number can be taken for a name. */
    static int fineBy(String e) {
        SandPicture x = calmWith(10, 0);
        x.hours(3);
        x.sneeze(0);
        is("[" + e + "]", Due.text(x, "fine " + e), 0);
        return x.fine();
    }

    /** A SLOT's SHEET is this row, and ends there. */
    static void slotIs(SandPicture x, int slot, int... due) {
        for (int i = 0; i < due.length; i++) {
            is("place " + i, x.item(slot, i), due[i]);
        }
        is("the end of the row", x.item(slot, due.length), INDEX);
    }

    /** A SHEET is this row (KIND for NO NUMBER); SLOT 4 is used for it. */
    static void sheetIs(SandPicture x, int sheet, int... due) {
        x.lay(4, 2, sheet);
        slotIs(x, 4, due);
    }

    static void marks(SandPicture x, int sheet, int... row) {
        for (int i = 0; i < row.length; i++) {
            x.mark(sheet, i, row[i]);
        }
    }
}
