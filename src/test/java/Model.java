import java.util.ArrayDeque;
import java.util.ArrayList;
import java.util.Arrays;
import java.util.Deque;
import java.util.List;
import java.util.function.IntBinaryOperator;
import java.util.function.ToIntFunction;

/**
 * A second writing of the document, meant to share no idea with the class but the document's words:
 * kinds are classes under one another, thoughts are copies, texts are read by signs and two stacks.
 */
public final class Model {
    static final int BAD = -1000000001, NO = -1000000002, FULL = -1000000003, NONE = -1000000005,
            NOTHING = -1000000011, KIND = -1000000012, INDEX = -1000000013, SIZE = -1000000014;

    // ---- monks

    static class Monk {
        int pace;
        int at;

        int plain(State s, int x) {
            Law law = s.last("pour");
            if (law == null) {
                return pace;
            }
            int v = law.e.applyAsInt(new int[] {pace, s.tables[at].done, x});
            return v < 0 ? 0 : v > 999 ? 999 : v;
        }

        int pours(State s, int x) {
            return plain(s, x);
        }

        int spills(int n) {
            return 0;
        }

        int adds(int n) {
            return 0;
        }

        int worth() {
            return pace;
        }

        int number() {
            return 0;
        }
    }

    static class Slow extends Monk {
        @Override int pours(State s, int x) {
            return super.pours(s, x) / 2;
        }

        @Override int worth() {
            return super.worth() + 6;
        }

        @Override int number() {
            return 1;
        }
    }

    static class Novice extends Monk {
        @Override int pours(State s, int x) {
            return super.pours(s, x) + x;
        }

        @Override int spills(int n) {
            return n / 10;
        }

        @Override int adds(int n) {
            return spills(n) > 0 ? 1 : 0;
        }

        @Override int worth() {
            return 99 - pace;
        }

        @Override int number() {
            return 2;
        }
    }

    static class Old extends Slow {
        @Override int pours(State s, int x) {
            int v = super.pours(s, x) - x / 3;
            return v < 0 ? 0 : v;
        }

        @Override int worth() {
            return super.worth() * 2;
        }

        @Override int number() {
            return 3;
        }
    }

    static class Proud extends Novice {
        @Override int pours(State s, int x) {
            return super.pours(s, x) * 2;
        }

        @Override int spills(int n) {
            return super.spills(n) + (n > 0 ? 1 : 0);
        }

        @Override int worth() {
            return super.worth() - 9;
        }

        @Override int number() {
            return 4;
        }
    }

    static class Guest extends Monk {
        @Override int pours(State s, int x) {
            return Math.min(super.pours(s, x), 9);
        }

        @Override int adds(int n) {
            return 1;
        }

        @Override int worth() {
            return 4;
        }

        @Override int number() {
            return 5;
        }
    }

    static final List<Class<? extends Monk>> CLASSES =
            List.of(Monk.class, Slow.class, Novice.class, Old.class, Proud.class, Guest.class);

    static Monk make(int kind, int pace, int at) {
        Monk m;
        switch (kind) {
            case 0: m = new Monk(); break;
            case 1: m = new Slow(); break;
            case 2: m = new Novice(); break;
            case 3: m = new Old(); break;
            case 4: m = new Proud(); break;
            case 5: m = new Guest(); break;
            default: throw new IllegalArgumentException();
        }
        m.pace = pace;
        m.at = at;
        return m;
    }

    // ---- the state

    static final class Table {
        int need = 100, done, faults, wiped;

        Table copy() {
            Table t = new Table();
            t.need = need;
            t.done = done;
            t.faults = faults;
            t.wiped = wiped;
            return t;
        }
    }

    record Law(String key, int leaves, ToIntFunction<int[]> e) { }

    static final class State {
        Table[] tables = new Table[6];
        int[] rivers = {1000, 1000, 1000};
        List<Monk> monks = new ArrayList<>();
        List<Law> laws = new ArrayList<>();
        int wind = 10, spilt, hour, ends, z = 1;

        State() {
            for (int i = 0; i < 6; i++) {
                tables[i] = new Table();
            }
        }

        State copy() {
            State s = new State();
            for (int i = 0; i < 6; i++) {
                s.tables[i] = tables[i].copy();
            }
            s.rivers = rivers.clone();
            for (Monk m : monks) {
                s.monks.add(make(m.number(), m.pace, m.at));
            }
            s.laws.addAll(laws);
            s.wind = wind;
            s.spilt = spilt;
            s.hour = hour;
            s.ends = ends;
            s.z = z;
            return s;
        }

        Law last(String key) {
            for (int i = laws.size() - 1; i >= 0; i--) {
                if (laws.get(i).key().equals(key)) {
                    return laws.get(i);
                }
            }
            return null;
        }

        int draw(int by) {
            z = z * 1103515245 + 12345;
            return (z >>> 8) % by;
        }

        State after(int n, Monk without) {
            for (int i = 0; i < n; i++) {
                hour(without);
            }
            return this;
        }

        void hour(Monk without) {
            for (Monk m : monks) {
                int x = draw(10);
                if (m == without) {
                    continue;
                }
                Table t = tables[m.at];
                int n = m.pours(this, x);
                n = Math.min(n, rivers[m.at % 3]);
                n = Math.min(n, Math.max(0, t.need - t.done));
                rivers[m.at % 3] -= n;
                spilt += m.spills(n);
                t.done += n - m.spills(n);
                if (n > 0) {
                    t.faults += m.adds(n);
                }
            }
            if (draw(100) < wind) {
                int k = draw(6);
                int tenth = tables[k].done / 10;
                tables[k].done -= tenth;
                Table next = tables[k == 5 ? 0 : k + 1];
                next.done += tenth;
                if (tenth > 0) {
                    next.faults++;
                }
            }
            if (Arrays.stream(tables).allMatch(t -> t.done >= t.need)) {
                ends++;
            }
            for (int k = 0; k < 6; k++) {
                Table t = tables[k];
                if (t.done >= t.need) {
                    Law law = last("back");
                    int b = law == null ? t.done : law.e.applyAsInt(new int[] {t.done, t.faults, t.wiped});
                    b = b < 0 ? 0 : b > t.done ? t.done : b;
                    spilt += t.done - b;
                    rivers[k % 3] += b;
                    if (rivers[k % 3] > 99999) {
                        spilt += rivers[k % 3] - 99999;
                        rivers[k % 3] = 99999;
                    }
                    t.wiped++;
                    t.done = 0;
                    t.faults = 0;
                }
            }
            hour++;
        }

        int wiped() {
            return Arrays.stream(tables).mapToInt(t -> t.wiped).sum();
        }

        int faults() {
            return Arrays.stream(tables).mapToInt(t -> t.faults).sum();
        }

        int done() {
            return Arrays.stream(tables).mapToInt(t -> t.done).sum();
        }

        int sand() {
            return Arrays.stream(rivers).sum();
        }
    }

    State s = new State();
    State image = null;
    final StringBuilder tape = new StringBuilder();
    final List<Integer> waiting = new ArrayList<>();
    final double[][] sheets = new double[4][];
    final int[] sorts = new int[4];
    final Object[] slots = new Object[5];

    private static boolean in(int v, int a, int b) {
        return a <= v && v <= b;
    }

    private boolean monkIs(int m) {
        return in(m, 0, s.monks.size() - 1);
    }

    public int monk(int kind, int pace, int at) {
        if (!in(kind, 0, 5) || !in(pace, 1, 99) || !in(at, 0, 5)) return BAD;
        if (s.monks.size() == 10) return FULL;
        s.monks.add(make(kind, pace, at));
        return s.monks.size() - 1;
    }

    public int told(int monk, int what) {
        if (!monkIs(monk) || !in(what, 0, 3)) return BAD;
        Monk m = s.monks.get(monk);
        return new int[] {m.number(), m.pace, m.at, m.worth()}[what];
    }

    public int does(int monk, int what, int x) {
        if (!monkIs(monk) || !in(what, 0, 2) || x < 0 || x > (what == 0 ? 9 : 999)) return BAD;
        Monk m = s.monks.get(monk);
        return what == 0 ? m.pours(s, x) : what == 1 ? m.spills(x) : m.adds(x);
    }

    public int as(int monk, int kind) {
        if (!monkIs(monk) || !in(kind, 0, 5)) return BAD;
        return CLASSES.get(kind).isInstance(s.monks.get(monk)) ? s.monks.get(monk).pace : KIND;
    }

    public int turns(int monk, int kind) {
        if (!monkIs(monk) || !in(kind, 0, 5)) return BAD;
        Monk m = s.monks.get(monk);
        s.monks.set(monk, make(kind, m.pace, m.at));
        return m.number();
    }

    public int set(int monk, int what, int v) {
        if (!monkIs(monk) || !in(what, 1, 2) || (what == 1 ? !in(v, 1, 99) : !in(v, 0, 5))) return BAD;
        Monk m = s.monks.get(monk);
        int was = what == 1 ? m.pace : m.at;
        if (what == 1) m.pace = v; else m.at = v;
        return was;
    }

    public int table(int table, int what) {
        if (!in(table, 0, 5) || !in(what, 0, 3)) return BAD;
        Table t = s.tables[table];
        return new int[] {t.need, t.done, t.faults, t.wiped}[what];
    }

    public int need(int table, int v) {
        if (!in(table, 0, 5) || !in(v, 1, 999)) return BAD;
        int was = s.tables[table].need;
        s.tables[table].need = v;
        return was;
    }

    public int river(int river, int v) {
        if (!in(river, 0, 2) || !in(v, 0, 99999)) return BAD;
        int was = s.rivers[river];
        s.rivers[river] = v;
        return was;
    }

    public int wind(int v) {
        if (!in(v, 0, 100)) return BAD;
        int was = s.wind;
        s.wind = v;
        return was;
    }

    public int deal(int n) {
        if (!in(n, 1, 10)) return BAD;
        int came = 0;
        while (came < n && s.monks.size() < 10) {
            int kind = s.draw(6);
            int pace = 1 + s.draw(20);
            s.monks.add(make(kind, pace, s.draw(6)));
            came++;
        }
        return came;
    }

    public int seed(int v) {
        int was = s.z;
        s.z = v;
        return was;
    }

    public int hours(int n) {
        if (!in(n, 1, 100)) return BAD;
        int was = s.wiped();
        for (int i = 0; i < n && s.hour < 9999; i++) s.hour(null);
        return s.wiped() - was;
    }

    public int grains(int what) {
        if (!in(what, 0, 7)) return BAD;
        return new int[] {s.spilt, s.done(), s.rivers[0], s.rivers[1], s.rivers[2], s.faults(), s.wiped(), s.ends}[what];
    }

    public int sneeze(int table) {
        if (!in(table, 0, 5)) return BAD;
        int was = s.tables[table].done;
        s.tables[table].done = 0;
        s.spilt += was;
        return was;
    }

    public int behind(int n, int what) {
        if (!in(n, 0, 100) || !in(what, 0, 3)) return BAD;
        State t = s.copy().after(n, null);
        return new int[] {t.wiped(), t.faults(), t.spilt, t.ends}[what];
    }

    public int lacks(int n) {
        if (!in(n, 0, 100)) return BAD;
        State t = s.copy().after(n, null);
        int set = 0;
        for (int k = 5; k >= 0; k--) set = set * 2 + (t.tables[k].done < t.tables[k].need / 2 ? 1 : 0);
        return set;
    }

    public int dry(int river) {
        if (!in(river, 0, 2)) return BAD;
        State t = s.copy();
        for (int h = 0; h <= 300; h++, t.hour(null)) if (t.rivers[river] == 0) return h;
        return NONE;
    }

    public int goes(int monk, int n, int what) {
        if (!monkIs(monk) || !in(n, 1, 60) || !in(what, 0, 1)) return BAD;
        int[] wiped = new int[6];
        for (int k = 0; k < 6; k++) {
            State t = s.copy();
            t.monks.get(monk).at = k;
            wiped[k] = t.after(n, null).wiped();
        }
        int most = Arrays.stream(wiped).max().getAsInt();
        for (int k = 0; k < 6; k++) if (wiped[k] == most) return what == 0 ? k : most;
        return BAD;
    }

    public int blamed(int n) {
        if (!in(n, 1, 60)) return BAD;
        if (s.monks.isEmpty()) return NONE;
        int[] harm = new int[s.monks.size()];
        for (int m = 0; m < harm.length; m++) {
            State t = s.copy();
            t.after(n, t.monks.get(m));
            harm[m] = t.faults() + t.spilt;
        }
        int least = Arrays.stream(harm).min().getAsInt();
        int m = 0;
        while (harm[m] != least) m++;
        return m;
    }

    public int never() {
        State t = s.copy();
        for (int h = 1; h <= 300; h++) {
            t.hour(null);
            if (t.ends > s.ends) return h;
        }
        return NONE;
    }

    public int slower(int monk, int n) {
        if (!monkIs(monk) || !in(n, 1, 20)) return BAD;
        int best = NONE;
        for (int p = 1; p <= 99; p++) {
            State t = s.copy();
            t.monks.get(monk).pace = p;
            if (t.after(n, null).ends == s.ends) best = p;
        }
        return best;
    }

    public int paced(int sheet, int monk, int what) {
        if (!in(sheet, 0, 3) || !monkIs(monk) || !in(what, 0, 1)) return BAD;
        if (sheets[sheet] == null) return NOTHING;
        int best = 0;
        int least = Integer.MAX_VALUE;
        for (int p = 1; p <= 40; p++) {
            State t = s.copy();
            t.monks.get(monk).pace = p;
            t.hour(null);
            int all = 0;
            int[] done = new int[24];
            for (int k = 0; k < 6; k++) done[k] = t.tables[k].done;
            for (int k = 0; k < sheets[sheet].length; k++) {
                double v = sheets[sheet][k];
                if (!Double.isNaN(v)) all += (int) Math.abs(v - done[k]);
            }
            if (all < least) {
                least = all;
                best = p;
            }
        }
        return what == 0 ? best : least;
    }

    public int fine() {
        Law law = s.last("fine");
        return law == null ? s.spilt : law.e.applyAsInt(new int[] {s.hour, s.spilt});
    }

    // ---- texts

    public int feed(int a, int b, int c) {
        if (tape.length() > 84) return FULL;
        for (int v : new int[] {a, b, c}) {
            for (int i = 3; i >= 0; i--) tape.append((char) (v >> 8 * i & 255));
        }
        return tape.length();
    }

    public int trim(int n) {
        if (!in(n, 0, tape.length())) return BAD;
        tape.setLength(n);
        return n;
    }

    static final class Fault extends Exception {
        private static final long serialVersionUID = 1L;
        final int place;

        Fault(int place) {
            this.place = place;
        }
    }

    record Word(String bytes, int place, boolean stuck) { }

    static List<Word> words(String t) {
        List<Word> all = new ArrayList<>();
        int i = 0;
        while (i < t.length()) {
            if (t.charAt(i) == ' ') {
                i++;
                continue;
            }
            String rest = t.substring(i);
            String word = rest.replaceFirst("(?s)^([a-z]+|[0-9]+|.).*$", "$1");
            boolean ahead = i > 0 && String.valueOf(t.charAt(i - 1)).matches("[a-z0-9]");
            all.add(new Word(word, i, ahead && word.matches("[a-z]+|[0-9]+")));
            i += word.length();
        }
        return all;
    }

    static int level(String sign) {
        switch (sign) {
            case "|": return 1;
            case "&": return 2;
            case "<": case "=": case ">": return 3;
            case "+": case "-": return 4;
            case "*": case "/": return 5;
            case "!": return 6;
            default: return 0;
        }
    }

    static IntBinaryOperator work(String sign) {
        switch (sign) {
            case "|": return (a, b) -> a != 0 || b != 0 ? 1 : 0;
            case "&": return (a, b) -> a != 0 && b != 0 ? 1 : 0;
            case "<": return (a, b) -> a < b ? 1 : 0;
            case "=": return (a, b) -> a == b ? 1 : 0;
            case ">": return (a, b) -> a > b ? 1 : 0;
            case "+": return (a, b) -> a + b;
            case "-": return (a, b) -> a - b;
            case "*": return (a, b) -> a * b;
            default: return (a, b) -> b == 0 ? 0 : (int) ((long) a / b);
        }
    }

    static void reduce(Deque<String> signs, Deque<ToIntFunction<int[]>> parts) {
        String sign = signs.pop();
        ToIntFunction<int[]> right = parts.pop();
        if (sign.equals("!")) {
            parts.push(v -> right.applyAsInt(v) == 0 ? 1 : 0);
        } else {
            ToIntFunction<int[]> left = parts.pop();
            parts.push(v -> work(sign).applyAsInt(left.applyAsInt(v), right.applyAsInt(v)));
        }
    }

    /** Whether a test's sign stands between here and what opens this part, with no & or | behind it. */
    static boolean tested(Deque<String> signs) {
        for (String sign : signs) {
            if (sign.equals("(") || level(sign) == 1 || level(sign) == 2) return false;
            if (level(sign) == 3) return true;
        }
        return false;
    }

    static Law read(String t) throws Fault {
        List<Word> all = words(t);
        if (all.isEmpty()) throw new Fault(t.length());
        String key = all.get(0).bytes();
        if (!key.matches("pour|back|fine")) throw new Fault(all.get(0).place());
        String names = key.equals("pour") ? "pdx" : key.equals("back") ? "dfw" : "hs";
        Deque<String> signs = new ArrayDeque<>();
        Deque<ToIntFunction<int[]>> parts = new ArrayDeque<>();
        boolean wantsPiece = true;
        int leaves = 0;
        for (Word w : all.subList(1, all.size())) {
            String b = w.bytes();
            Fault fault = new Fault(w.place());
            if (w.stuck()) throw fault;
            if (wantsPiece) {
                if (b.equals("(") || b.equals("!")) {
                    if (signs.stream().filter(b::equals).count() == 8) throw fault;
                    signs.push(b);
                } else if (b.matches("[0-9]{1,4}")) {
                    int v = Integer.parseInt(b);
                    parts.push(x -> v);
                    leaves++;
                    wantsPiece = false;
                } else if (b.length() == 1 && names.contains(b)) {
                    int v = names.indexOf(b);
                    parts.push(x -> x[v]);
                    leaves++;
                    wantsPiece = false;
                } else {
                    throw fault;
                }
            } else if (b.equals(")")) {
                if (!signs.contains("(")) throw fault;
                while (!signs.peek().equals("(")) reduce(signs, parts);
                signs.pop();
            } else if (level(b) >= 1 && level(b) <= 5) {
                if (level(b) == 3 && tested(signs)) throw fault;
                while (!signs.isEmpty() && level(signs.peek()) >= level(b)) reduce(signs, parts);
                signs.push(b);
                wantsPiece = true;
            } else {
                throw fault;
            }
            while (!wantsPiece && !signs.isEmpty() && signs.peek().equals("!")) reduce(signs, parts);
        }
        if (wantsPiece || signs.contains("(")) throw new Fault(t.length());
        while (!signs.isEmpty()) reduce(signs, parts);
        return new Law(key, leaves, parts.pop());
    }

    public int text() {
        String t = tape.toString();
        tape.setLength(0);
        try {
            Law law = read(t);
            if (s.laws.size() == 14) return FULL;
            s.laws.add(law);
            return s.laws.size() - 1;
        } catch (Fault f) {
            return -100 - f.place;
        }
    }

    private static final List<String> KEYS = List.of("pour", "back", "fine");

    public int textTold(int text, int what) {
        if (!in(text, 0, s.laws.size() - 1) || !in(what, 0, 1)) return BAD;
        return what == 0 ? KEYS.indexOf(s.laws.get(text).key()) : s.laws.get(text).leaves();
    }

    public int why(int key) {
        if (!in(key, 0, 2)) return BAD;
        Law law = s.last(KEYS.get(key));
        return law == null ? NONE : s.laws.indexOf(law);
    }

    // ---- sheets, slots

    public int sheet(int sheet, int sort, int n) {
        if (!in(sheet, 0, 3) || !in(sort, -1, 1) || sort >= 0 && n > 24) return BAD;
        if (sort >= 0 && n < 0) return SIZE;
        sheets[sheet] = sort < 0 ? null : new double[n];
        sorts[sheet] = sort;
        return sort < 0 ? 0 : n;
    }

    public int mark(int sheet, int place, int v) {
        if (!in(sheet, 0, 3)) return BAD;
        if (sheets[sheet] == null) return NOTHING;
        if (!in(place, 0, sheets[sheet].length - 1)) return INDEX;
        if (sorts[sheet] == 0 && v == NONE) return KIND;
        if (sorts[sheet] == 1 && v != NONE && Math.abs((long) v) > 99999) return BAD;
        sheets[sheet][place] = sorts[sheet] == 0 ? (short) v : v == NONE ? Double.NaN : v;
        return 1;
    }

    public int pour(int sheet) {
        if (!in(sheet, 0, 3)) return BAD;
        if (sheets[sheet] == null) return NOTHING;
        int n = 0;
        for (int k = 0; k < 6; k++) {
            int was = s.tables[k].need;
            if (k < sheets[sheet].length && !Double.isNaN(sheets[sheet][k])) {
                s.tables[k].need = Math.min(999, Math.max(1, (int) sheets[sheet][k]));
            }
            if (was != s.tables[k].need) n++;
        }
        return n;
    }

    public int reads(int sheet) {
        if (!in(sheet, 0, 3)) return BAD;
        if (sheets[sheet] == null) return NOTHING;
        for (int k = 0; k < sheets[sheet].length; k++) {
            double v = sheets[sheet][k];
            if (Double.isNaN(v)) continue;
            if (k > 5 || v != s.tables[k].done) return k;
        }
        return NONE;
    }

    public int copy(int from, int place, int to, int at, int many) {
        if (!in(from, 0, 3) || !in(to, 0, 3)) return BAD;
        if (sheets[from] == null || sheets[to] == null) return NOTHING;
        if (sorts[from] != sorts[to]) return KIND;
        try {
            System.arraycopy(sheets[from], place, sheets[to], at, many);
        } catch (IndexOutOfBoundsException e) {
            return INDEX;
        }
        return many;
    }

    public int lay(int slot, int thing, int k) {
        if (!in(slot, 0, 4) || !in(thing, 0, 3)) return BAD;
        if (thing == 1 && !monkIs(k) || thing == 2 && !in(k, 0, 3)) return BAD;
        if (thing == 2 && sheets[k] == null) return NOTHING;
        Object held = slots[slot];
        Monk m = thing == 1 ? s.monks.get(k) : null;
        slots[slot] = thing == 0 ? null : thing == 1 ? make(m.number(), m.pace, m.at) : thing == 2 ? sheets[k].clone() : (Object) k;
        return held == null ? 0 : held instanceof Monk ? 1 : held instanceof Integer ? 3 : 2;
    }

    public int ask(int slot, int kind) {
        if (!in(slot, 0, 4) || !in(kind, 0, 5)) return BAD;
        if (slots[slot] == null) return NOTHING;
        return CLASSES.get(kind).isInstance(slots[slot]) ? ((Monk) slots[slot]).worth() : KIND;
    }

    public int item(int slot, int place) {
        if (!in(slot, 0, 4)) return BAD;
        if (slots[slot] == null) return NOTHING;
        if (!(slots[slot] instanceof double[])) return KIND;
        double[] row = (double[]) slots[slot];
        if (!in(place, 0, row.length - 1)) return INDEX;
        return Double.isNaN(row[place]) ? KIND : (int) row[place];
    }

    public int rest(int slot, int n) {
        if (!in(slot, 0, 4)) return BAD;
        if (slots[slot] == null) return NOTHING;
        if (!(slots[slot] instanceof Integer)) return KIND;
        return n == 0 ? NO : (int) ((long) (Integer) slots[slot] % n);
    }

    // ---- rows, images

    public int tell(int v) {
        if (waiting.size() == 60) return FULL;
        waiting.add(v);
        return waiting.size();
    }

    /** The numbers that check asks for now; empty without an image. */
    List<Integer> dueRows(int n) {
        List<Integer> due = new ArrayList<>();
        State t = image == null ? null : image.copy();
        for (int i = 0; t != null && i < n && t.hour < 9999; i++) {
            t.hour(null);
            due.add(t.done());
            due.add(t.sand());
        }
        return due;
    }

    public int check(int n) {
        List<Integer> got = new ArrayList<>(waiting);
        waiting.clear();
        if (!in(n, 1, 30)) return BAD;
        if (image == null) return NO;
        List<Integer> due = dueRows(n);
        if (got.equals(due)) return 0;
        int same = 0;
        while (same < got.size() && same < due.size() && got.get(same).equals(due.get(same))) same++;
        return 1 + same;
    }

    public int keep() {
        image = s.copy();
        return s.monks.size();
    }

    public int back() {
        if (image == null) return NO;
        s = image.copy();
        return s.monks.size();
    }

    public int count(int what) {
        if (!in(what, 0, 7)) return BAD;
        int faulty = (int) Arrays.stream(s.tables).filter(t -> t.faults > 0).count();
        return new int[] {s.monks.size(), s.hour, s.wind, faulty, s.laws.size(), waiting.size(), tape.length(), s.z}[what];
    }
}
