/**
 * Sand that must not be finished: tables, rivers, monks, draughts, texts, sheets, slots and an image.
 * The document (DOC.md) says what each call answers; names in capitals below are the document's own.
 */
public final class SandPicture {
    public static final int BAD = -1000000001, NO = -1000000002, FULL = -1000000003, NONE = -1000000005,
            NOTHING = -1000000011, KIND = -1000000012, INDEX = -1000000013, SIZE = -1000000014;

    private static final int TABLES = 6, RIVERS = 3, MONKS = 10, SHEETS = 4, SLOTS = 5, TEXTS = 14;
    private static final int NEED_MOST = 999, SAND_MOST = 99999, WIND_MOST = 100, HOUR_MOST = 9999;
    private static final int PACE_MOST = 99, PACED_MOST = 40, POUR_MOST = 999;
    private static final int BEHIND_MOST = 100, AHEAD_MOST = 300, CHOICE_MOST = 60, SLOWER_MOST = 20, CHECK_MOST = 30;
    private static final int PLACES_MOST = 24, MARK_MOST = 99999, WAIT_MOST = 60;
    private static final int TAPE_MOST = 96, FEED = 12, OPEN_MOST = 8, DIGITS_MOST = 4;
    private static final int POUR = 0, BACK = 1, FINE = 2, KEYS = 3;
    private static final int MISSING = -1, SHORTS = 0, FLOATS = 1;
    private static final int HOLDS_NOTHING = 0, HOLDS_MONK = 1, HOLDS_SHEET = 2, HOLDS_NUMBER = 3;
    private static final int NOBODY = -1;

    // One text more than can be told, so that a TAPE is looked at for a FAULT even if there is no room.
    private final Text[] texts = new Text[TEXTS + 1];
    private final Tape tape = new Tape();
    private final Picture now;
    private final Picture image;
    private final Picture thought;
    private boolean kept = false;
    private final Sheet[] sheets = new Sheet[SHEETS];
    private final Slot[] slots = new Slot[SLOTS];
    private final int[] waiting = new int[WAIT_MOST];
    private int waits = 0;

    public SandPicture() {
        for (int i = 0; i < texts.length; i++) {
            texts[i] = new Text();
        }
        int[] stack = new int[TAPE_MOST];
        now = new Picture(texts, stack);
        image = new Picture(texts, stack);
        thought = new Picture(texts, stack);
        for (int i = 0; i < sheets.length; i++) {
            sheets[i] = new Sheet();
        }
        for (int i = 0; i < slots.length; i++) {
            slots[i] = new Slot();
        }
    }

    // ---- monks, tables

    public int monk(int kind, int pace, int at) {
        if (!Kinds.known(kind) || !within(pace, 1, PACE_MOST) || !isTable(at)) {
            return BAD;
        }
        if (now.monks >= MONKS) {
            return FULL;
        }
        return now.addMonk(kind, pace, at);
    }

    public int told(int monk, int what) {
        if (!isMonk(monk)) {
            return BAD;
        }
        switch (what) {
            case 0: return now.kind[monk];
            case 1: return now.pace[monk];
            case 2: return now.at[monk];
            case 3: return Kinds.worth(now.kind[monk], now.pace[monk]);
            default: return BAD;
        }
    }

    public int does(int monk, int what, int x) {
        if (!isMonk(monk) || !within(what, 0, 2) || !within(x, 0, what == 0 ? 9 : POUR_MOST)) {
            return BAD;
        }
        switch (what) {
            case 0: return now.pours(monk, x);
            case 1: return Kinds.spills(now.kind[monk], x);
            default: return Kinds.adds(now.kind[monk], x);
        }
    }

    public int as(int monk, int kind) {
        if (!isMonk(monk) || !Kinds.known(kind)) {
            return BAD;
        }
        return Kinds.isUnder(now.kind[monk], kind) ? now.pace[monk] : KIND;
    }

    public int turns(int monk, int kind) {
        if (!isMonk(monk) || !Kinds.known(kind)) {
            return BAD;
        }
        int was = now.kind[monk];
        now.kind[monk] = kind;
        return was;
    }

    public int set(int monk, int what, int v) {
        if (!isMonk(monk)) {
            return BAD;
        }
        if (what == 1 && within(v, 1, PACE_MOST)) {
            int was = now.pace[monk];
            now.pace[monk] = v;
            return was;
        }
        if (what == 2 && isTable(v)) {
            int was = now.at[monk];
            now.at[monk] = v;
            return was;
        }
        return BAD;
    }

    public int table(int table, int what) {
        if (!isTable(table)) {
            return BAD;
        }
        switch (what) {
            case 0: return now.need[table];
            case 1: return now.done[table];
            case 2: return now.faults[table];
            case 3: return now.wiped[table];
            default: return BAD;
        }
    }

    public int need(int table, int v) {
        if (!isTable(table) || !within(v, 1, NEED_MOST)) {
            return BAD;
        }
        int was = now.need[table];
        now.need[table] = v;
        return was;
    }

    public int river(int river, int v) {
        if (!isRiver(river) || !within(v, 0, SAND_MOST)) {
            return BAD;
        }
        int was = now.sand[river];
        now.sand[river] = v;
        return was;
    }

    public int wind(int v) {
        if (!within(v, 0, WIND_MOST)) {
            return BAD;
        }
        int was = now.wind;
        now.wind = v;
        return was;
    }

    public int deal(int n) {
        if (!within(n, 1, MONKS)) {
            return BAD;
        }
        int come = Math.min(n, MONKS - now.monks);
        for (int i = 0; i < come; i++) {
            now.drawMonk();
        }
        return come;
    }

    public int seed(int v) {
        int was = now.z;
        now.z = v;
        return was;
    }

    // ---- hours

    public int hours(int n) {
        if (!within(n, 1, BEHIND_MOST)) {
            return BAD;
        }
        return now.passHours(Math.min(n, HOUR_MOST - now.hour));
    }

    public int grains(int what) {
        switch (what) {
            case 0: return now.spilt;
            case 1: return sum(now.done);
            case 2: return now.sand[0];
            case 3: return now.sand[1];
            case 4: return now.sand[2];
            case 5: return sum(now.faults);
            case 6: return sum(now.wiped);
            case 7: return now.ends;
            default: return BAD;
        }
    }

    public int sneeze(int table) {
        if (!isTable(table)) {
            return BAD;
        }
        int was = now.done[table];
        now.done[table] = 0;
        now.spilt += was;
        return was;
    }

    // ---- what will be

    public int behind(int n, int what) {
        if (!within(n, 0, BEHIND_MOST) || !within(what, 0, 3)) {
            return BAD;
        }
        thought.become(now);
        thought.passHours(n);
        switch (what) {
            case 0: return sum(thought.wiped);
            case 1: return sum(thought.faults);
            case 2: return thought.spilt;
            default: return thought.ends;
        }
    }

    public int lacks(int n) {
        if (!within(n, 0, BEHIND_MOST)) {
            return BAD;
        }
        thought.become(now);
        thought.passHours(n);
        int lacking = 0;
        for (int t = 0; t < TABLES; t++) {
            if (thought.done[t] < thought.need[t] / 2) {
                lacking |= 1 << t;
            }
        }
        return lacking;
    }

    public int dry(int river) {
        if (!isRiver(river)) {
            return BAD;
        }
        thought.become(now);
        for (int h = 0; h < AHEAD_MOST; h++) {
            if (thought.sand[river] == 0) {
                return h;
            }
            thought.passHour();
        }
        return thought.sand[river] == 0 ? AHEAD_MOST : NONE;
    }

    public int goes(int monk, int n, int what) {
        if (!isMonk(monk) || !within(n, 1, CHOICE_MOST) || !within(what, 0, 1)) {
            return BAD;
        }
        int best = 0;
        int most = -1;
        for (int t = 0; t < TABLES; t++) {
            thought.become(now);
            thought.at[monk] = t;
            thought.passHours(n);
            int wipes = sum(thought.wiped);
            if (wipes > most) {
                best = t;
                most = wipes;
            }
        }
        return what == 0 ? best : most;
    }

    public int blamed(int n) {
        if (!within(n, 1, CHOICE_MOST)) {
            return BAD;
        }
        int blame = NONE;
        int least = 0;
        for (int m = 0; m < now.monks; m++) {
            thought.become(now);
            thought.idle = m;
            thought.passHours(n);
            int harm = sum(thought.faults) + thought.spilt;
            if (blame == NONE || harm < least) {
                blame = m;
                least = harm;
            }
        }
        return blame;
    }

    public int never() {
        thought.become(now);
        for (int h = 1; h <= AHEAD_MOST; h++) {
            thought.passHour();
            if (thought.ends > now.ends) {
                return h;
            }
        }
        return NONE;
    }

    public int slower(int monk, int n) {
        if (!isMonk(monk) || !within(n, 1, SLOWER_MOST)) {
            return BAD;
        }
        for (int pace = PACE_MOST; pace >= 1; pace--) {
            thought.become(now);
            thought.pace[monk] = pace;
            thought.passHours(n);
            if (thought.ends == now.ends) {
                return pace;
            }
        }
        return NONE;
    }

    public int paced(int sheet, int monk, int what) {
        if (!isSheet(sheet) || !isMonk(monk) || !within(what, 0, 1)) {
            return BAD;
        }
        if (sheets[sheet].sort == MISSING) {
            return NOTHING;
        }
        int best = NONE;
        int least = 0;
        for (int pace = 1; pace <= PACED_MOST; pace++) {
            thought.become(now);
            thought.pace[monk] = pace;
            thought.passHour();
            int differ = sheets[sheet].differsFrom(thought.done);
            if (best == NONE || differ < least) {
                best = pace;
                least = differ;
            }
        }
        return what == 0 ? best : least;
    }

    public int fine() {
        return now.lawGives(FINE, now.hour, now.spilt, 0, now.spilt);
    }

    // ---- texts

    public int feed(int a, int b, int c) {
        if (tape.size + FEED > TAPE_MOST) {
            return FULL;
        }
        tape.addBytes(a);
        tape.addBytes(b);
        tape.addBytes(c);
        return tape.size;
    }

    public int trim(int n) {
        if (!within(n, 0, tape.size)) {
            return BAD;
        }
        tape.size = n;
        return n;
    }

    public int text() {
        int number = Math.min(now.textCount, TEXTS);
        int fault = tape.readInto(texts[number]);
        if (fault >= 0) {
            return -100 - fault;
        }
        if (number >= TEXTS) {
            return FULL;
        }
        now.textCount = number + 1;
        now.law[texts[number].key] = number;
        return number;
    }

    public int textTold(int text, int what) {
        if (!within(text, 0, now.textCount - 1)) {
            return BAD;
        }
        switch (what) {
            case 0: return texts[text].key;
            case 1: return texts[text].leaves;
            default: return BAD;
        }
    }

    public int why(int key) {
        return within(key, 0, KEYS - 1) ? now.law[key] : BAD;
    }

    // ---- sheets, slots

    public int sheet(int sheet, int sort, int n) {
        if (!isSheet(sheet) || !within(sort, MISSING, FLOATS)) {
            return BAD;
        }
        if (sort == MISSING) {
            sheets[sheet].renew(MISSING, 0);
            return 0;
        }
        if (n > PLACES_MOST) {
            return BAD;
        }
        if (n < 0) {
            return SIZE;
        }
        sheets[sheet].renew(sort, n);
        return n;
    }

    public int mark(int sheet, int place, int v) {
        if (!isSheet(sheet)) {
            return BAD;
        }
        Sheet row = sheets[sheet];
        if (row.sort == MISSING) {
            return NOTHING;
        }
        if (!within(place, 0, row.size - 1)) {
            return INDEX;
        }
        if (row.sort == SHORTS) {
            if (v == NONE) {
                return KIND;
            }
            row.places[place] = (short) v;
            return 1;
        }
        if (v != NONE && !within(v, -MARK_MOST, MARK_MOST)) {
            return BAD;
        }
        row.places[place] = v;
        return 1;
    }

    public int pour(int sheet) {
        if (!isSheet(sheet)) {
            return BAD;
        }
        Sheet row = sheets[sheet];
        if (row.sort == MISSING) {
            return NOTHING;
        }
        int otherwise = 0;
        for (int t = 0; t < TABLES && t < row.size; t++) {
            if (row.hasNumber(t)) {
                int need = Math.max(1, Math.min(NEED_MOST, row.places[t]));
                otherwise += need == now.need[t] ? 0 : 1;
                now.need[t] = need;
            }
        }
        return otherwise;
    }

    public int reads(int sheet) {
        if (!isSheet(sheet)) {
            return BAD;
        }
        Sheet row = sheets[sheet];
        if (row.sort == MISSING) {
            return NOTHING;
        }
        for (int k = 0; k < row.size; k++) {
            if (row.hasNumber(k) && (k >= TABLES || row.places[k] != now.done[k])) {
                return k;
            }
        }
        return NONE;
    }

    public int copy(int from, int place, int to, int at, int many) {
        if (!isSheet(from) || !isSheet(to)) {
            return BAD;
        }
        Sheet source = sheets[from];
        Sheet target = sheets[to];
        if (source.sort == MISSING || target.sort == MISSING) {
            return NOTHING;
        }
        if (source.sort != target.sort) {
            return KIND;
        }
        if (!source.hasStretch(place, many) || !target.hasStretch(at, many)) {
            return INDEX;
        }
        System.arraycopy(source.places, place, target.places, at, many);
        return many;
    }

    public int lay(int slot, int thing, int k) {
        if (!isSlot(slot) || !within(thing, HOLDS_NOTHING, HOLDS_NUMBER)) {
            return BAD;
        }
        if (thing == HOLDS_MONK && !isMonk(k) || thing == HOLDS_SHEET && !isSheet(k)) {
            return BAD;
        }
        if (thing == HOLDS_SHEET && sheets[k].sort == MISSING) {
            return NOTHING;
        }
        Slot place = slots[slot];
        int held = place.holds;
        place.holds = thing;
        if (thing == HOLDS_MONK) {
            place.kind = now.kind[k];
            place.pace = now.pace[k];
        } else if (thing == HOLDS_SHEET) {
            place.sheet.become(sheets[k]);
        } else if (thing == HOLDS_NUMBER) {
            place.number = k;
        }
        return held;
    }

    public int ask(int slot, int kind) {
        if (!isSlot(slot) || !Kinds.known(kind)) {
            return BAD;
        }
        Slot place = slots[slot];
        if (place.holds == HOLDS_NOTHING) {
            return NOTHING;
        }
        if (place.holds != HOLDS_MONK || !Kinds.isUnder(place.kind, kind)) {
            return KIND;
        }
        return Kinds.worth(place.kind, place.pace);
    }

    public int item(int slot, int place) {
        if (!isSlot(slot)) {
            return BAD;
        }
        if (slots[slot].holds == HOLDS_NOTHING) {
            return NOTHING;
        }
        if (slots[slot].holds != HOLDS_SHEET) {
            return KIND;
        }
        Sheet row = slots[slot].sheet;
        if (!within(place, 0, row.size - 1)) {
            return INDEX;
        }
        return row.hasNumber(place) ? row.places[place] : KIND;
    }

    public int rest(int slot, int n) {
        if (!isSlot(slot)) {
            return BAD;
        }
        if (slots[slot].holds == HOLDS_NOTHING) {
            return NOTHING;
        }
        if (slots[slot].holds != HOLDS_NUMBER) {
            return KIND;
        }
        return n == 0 ? NO : slots[slot].number % n;
    }

    // ---- rows, images

    public int tell(int v) {
        if (waits >= WAIT_MOST) {
            return FULL;
        }
        waiting[waits] = v;
        waits++;
        return waits;
    }

    public int check(int n) {
        int told = waits;
        waits = 0;
        if (!within(n, 1, CHECK_MOST)) {
            return BAD;
        }
        if (!kept) {
            return NO;
        }
        thought.become(image);
        int due = 2 * Math.min(n, HOUR_MOST - image.hour);
        for (int i = 0; i < due; i++) {
            if (i % 2 == 0) {
                thought.passHour();
            }
            int want = i % 2 == 0 ? sum(thought.done) : sum(thought.sand);
            if (i >= told || waiting[i] != want) {
                return 1 + i;
            }
        }
        return told > due ? 1 + due : 0;
    }

    public int keep() {
        image.become(now);
        kept = true;
        return now.monks;
    }

    public int back() {
        if (!kept) {
            return NO;
        }
        now.become(image);
        return now.monks;
    }

    public int count(int what) {
        switch (what) {
            case 0: return now.monks;
            case 1: return now.hour;
            case 2: return now.wind;
            case 3: return howManyAboveZero(now.faults);
            case 4: return now.textCount;
            case 5: return waits;
            case 6: return tape.size;
            case 7: return now.z;
            default: return BAD;
        }
    }

    // ---- helpers

    private static boolean within(int v, int least, int most) {
        return v >= least && v <= most;
    }

    private static boolean isTable(int table) {
        return within(table, 0, TABLES - 1);
    }

    private static boolean isRiver(int river) {
        return within(river, 0, RIVERS - 1);
    }

    private static boolean isSheet(int sheet) {
        return within(sheet, 0, SHEETS - 1);
    }

    private static boolean isSlot(int slot) {
        return within(slot, 0, SLOTS - 1);
    }

    private boolean isMonk(int monk) {
        return within(monk, 0, now.monks - 1);
    }

    private static int sum(int[] row) {
        int all = 0;
        for (int v : row) {
            all += v;
        }
        return all;
    }

    private static int howManyAboveZero(int[] row) {
        int many = 0;
        for (int v : row) {
            many += v > 0 ? 1 : 0;
        }
        return many;
    }

    /** What the KINDS of MONKS do, each as the one above it but for what it does itself. */
    private static final class Kinds {
        private static final int PLAIN = 0, SLOW = 1, NOVICE = 2, OLD = 3, PROUD = 4, GUEST = 5;
        private static final int GUEST_MOST = 9, GUEST_WORTH = 4;

        static boolean known(int kind) {
            return kind >= PLAIN && kind <= GUEST;
        }

        static int above(int kind) {
            return kind == OLD ? SLOW : kind == PROUD ? NOVICE : PLAIN;
        }

        static boolean isUnder(int kind, int other) {
            return other == PLAIN || kind == other || above(kind) == other;
        }

        /** What is poured by x, if as MONK it would be plain. */
        static int poursOf(int kind, int plain, int x) {
            switch (kind) {
                case SLOW: return plain / 2;
                case OLD: return Math.max(0, plain / 2 - x / 3);
                case NOVICE: return plain + x;
                case PROUD: return 2 * (plain + x);
                case GUEST: return Math.min(GUEST_MOST, plain);
                default: return plain;
            }
        }

        static int spills(int kind, int n) {
            switch (kind) {
                case NOVICE: return n / 10;
                case PROUD: return n > 0 ? n / 10 + 1 : 0;
                default: return 0;
            }
        }

        static int adds(int kind, int n) {
            if (kind == GUEST) {
                return 1;
            }
            return spills(kind, n) > 0 ? 1 : 0;
        }

        static int worth(int kind, int pace) {
            switch (kind) {
                case SLOW: return pace + 6;
                case OLD: return 2 * (pace + 6);
                case NOVICE: return 99 - pace;
                case PROUD: return 99 - pace - 9;
                case GUEST: return GUEST_WORTH;
                default: return pace;
            }
        }
    }

    /** All that an IMAGE keeps: MONKS, TABLES, RIVERS, z, and which TEXTS count. */
    private static final class Picture {
        // Shared by all pictures of one object: a picture only knows how many of the texts are told in it.
        // An image's texts are the first ones of now's, so later texts never stand where an image's do.
        private final Text[] texts;
        private final int[] stack;
        int textCount = 0;
        final int[] law = {NONE, NONE, NONE};
        int monks = 0;
        final int[] kind = new int[MONKS];
        final int[] pace = new int[MONKS];
        final int[] at = new int[MONKS];
        final int[] need = {100, 100, 100, 100, 100, 100};
        final int[] done = new int[TABLES];
        final int[] faults = new int[TABLES];
        final int[] wiped = new int[TABLES];
        final int[] sand = {1000, 1000, 1000};
        int wind = 10;
        int spilt = 0;
        int hour = 0;
        int ends = 0;
        int z = 1;
        /** The MONK that is thought to pour nothing. */
        int idle = NOBODY;

        Picture(Text[] texts, int[] stack) {
            this.texts = texts;
            this.stack = stack;
        }

        void become(Picture other) {
            textCount = other.textCount;
            System.arraycopy(other.law, 0, law, 0, KEYS);
            monks = other.monks;
            System.arraycopy(other.kind, 0, kind, 0, MONKS);
            System.arraycopy(other.pace, 0, pace, 0, MONKS);
            System.arraycopy(other.at, 0, at, 0, MONKS);
            System.arraycopy(other.need, 0, need, 0, TABLES);
            System.arraycopy(other.done, 0, done, 0, TABLES);
            System.arraycopy(other.faults, 0, faults, 0, TABLES);
            System.arraycopy(other.wiped, 0, wiped, 0, TABLES);
            System.arraycopy(other.sand, 0, sand, 0, RIVERS);
            wind = other.wind;
            spilt = other.spilt;
            hour = other.hour;
            ends = other.ends;
            z = other.z;
            idle = NOBODY;
        }

        int addMonk(int newKind, int newPace, int newAt) {
            if (monks >= MONKS) {
                return FULL;
            }
            kind[monks] = newKind;
            pace[monks] = newPace;
            at[monks] = newAt;
            monks++;
            return monks - 1;
        }

        void drawMonk() {
            int newKind = draw() % 6;
            int newPace = 1 + draw() % 20;
            int newAt = draw() % TABLES;
            addMonk(newKind, newPace, newAt);
        }

        private int draw() {
            z = z * 1103515245 + 12345;
            return z >>> 8;
        }

        /** What the TEXT that counts for a KEY gives, or what is due without one. */
        int lawGives(int key, int a, int b, int c, int without) {
            int number = law[key];
            if (number < 0 || number >= texts.length) {
                return without;
            }
            return texts[number].worksOut(a, b, c, stack);
        }

        int pours(int monk, int x) {
            int plain = lawGives(POUR, pace[monk], done[at[monk]], x, pace[monk]);
            return Kinds.poursOf(kind[monk], Math.max(0, Math.min(POUR_MOST, plain)), x);
        }

        /** How many TABLES are WIPED in n HOURS. */
        int passHours(int n) {
            int wipes = 0;
            for (int i = 0; i < n; i++) {
                wipes += passHour();
            }
            return wipes;
        }

        int passHour() {
            for (int m = 0; m < monks; m++) {
                work(m);
            }
            if (draw() % 100 < wind) {
                blowFrom(draw() % TABLES);
            }
            if (allAreDone()) {
                ends++;
            }
            int wipes = 0;
            for (int t = 0; t < TABLES; t++) {
                if (done[t] >= need[t]) {
                    wipe(t);
                    wipes++;
                }
            }
            hour++;
            return wipes;
        }

        private void work(int monk) {
            int x = draw() % 10;
            if (monk == idle) {
                return;
            }
            int t = at[monk];
            int room = Math.max(0, need[t] - done[t]);
            int n = Math.min(pours(monk, x), Math.min(sand[t % RIVERS], room));
            if (n <= 0) {
                return;
            }
            int lost = Kinds.spills(kind[monk], n);
            sand[t % RIVERS] -= n;
            spilt += lost;
            done[t] += n - lost;
            faults[t] += Kinds.adds(kind[monk], n);
        }

        private void blowFrom(int t) {
            int next = (t + 1) % TABLES;
            int blown = done[t] / 10;
            done[t] -= blown;
            done[next] += blown;
            faults[next] += blown > 0 ? 1 : 0;
        }

        private boolean allAreDone() {
            for (int t = 0; t < TABLES; t++) {
                if (done[t] < need[t]) {
                    return false;
                }
            }
            return true;
        }

        private void wipe(int t) {
            int given = lawGives(BACK, done[t], faults[t], wiped[t], done[t]);
            int comesBack = Math.max(0, Math.min(done[t], given));
            int taken = Math.min(comesBack, SAND_MOST - sand[t % RIVERS]);
            sand[t % RIVERS] += taken;
            spilt += done[t] - taken;
            done[t] = 0;
            faults[t] = 0;
            wiped[t]++;
        }
    }

    /** A TEXT, worked out in the order in which its parts are ready: operands first, then their sign. */
    private static final class Text {
        // A code of 0 or more is a NUMBER, one down to NAME_LAST a NAME, any other one a sign's byte, less than 0.
        private static final int NAME_FIRST = -1, NAME_LAST = -3;

        int key = POUR;
        int leaves = 0;
        private int size = 0;
        private final int[] codes = new int[TAPE_MOST];

        void clear() {
            size = 0;
            leaves = 0;
        }

        void addNumber(int number) {
            addCode(number);
            leaves++;
        }

        void addName(int which) {
            addCode(NAME_FIRST - which);
            leaves++;
        }

        void addSign(int sign) {
            addCode(-sign);
        }

        private void addCode(int code) {
            if (size < codes.length) {
                codes[size] = code;
                size++;
            }
        }

        int worksOut(int a, int b, int c, int[] stack) {
            int top = 0;
            for (int i = 0; i < size; i++) {
                int code = codes[i];
                if (code >= NAME_LAST) {
                    if (top < stack.length) {
                        stack[top] = leaf(code, a, b, c);
                        top++;
                    }
                } else if (code == -'!') {
                    if (top >= 1) {
                        stack[top - 1] = stack[top - 1] == 0 ? 1 : 0;
                    }
                } else if (top >= 2) {
                    top--;
                    stack[top - 1] = joined(-code, stack[top - 1], stack[top]);
                }
            }
            return top > 0 ? stack[0] : 0;
        }

        private static int leaf(int code, int a, int b, int c) {
            if (code >= 0) {
                return code;
            }
            return code == NAME_FIRST ? a : code == NAME_LAST ? c : b;
        }

        private static int joined(int sign, int left, int right) {
            switch (sign) {
                case '|': return left != 0 || right != 0 ? 1 : 0;
                case '&': return left != 0 && right != 0 ? 1 : 0;
                case '<': return left < right ? 1 : 0;
                case '=': return left == right ? 1 : 0;
                case '>': return left > right ? 1 : 0;
                case '+': return left + right;
                case '-': return left - right;
                case '*': return left * right;
                default: return right == 0 ? 0 : left / right;
            }
        }
    }

    /** THE TAPE, and the reading of a TEXT from it. */
    private static final class Tape {
        private static final int LOOSEST = 0, TESTS = 2, TIGHTEST = 4;
        private static final int END = -1, SOUND = -1;

        int size = 0;
        private final int[] bytes = new int[TAPE_MOST];
        // The word or sign at hand: its first byte's place, the place behind it, and whether it is a word stuck to another.
        private int from = 0;
        private int to = 0;
        private boolean stuck = false;
        private int fault = SOUND;

        void addBytes(int four) {
            for (int shift = 24; shift >= 0; shift -= 8) {
                if (size < bytes.length) {
                    bytes[size] = four >>> shift & 255;
                    size++;
                }
            }
        }

        /** Uses the tape up: the place of its FAULT, or below 0 if the text has become what it says. */
        int readInto(Text text) {
            text.clear();
            from = 0;
            to = 0;
            fault = SOUND;
            step();
            readKey(text);
            readLevel(text, LOOSEST, 0, 0);
            if (here() != END) {
                fail();
            }
            size = 0;
            return fault;
        }

        private void fail() {
            if (fault == SOUND) {
                fault = from;
            }
        }

        private int here() {
            return from < size && from < bytes.length ? bytes[from] : END;
        }

        private static boolean isLetter(int b) {
            return b >= 'a' && b <= 'z';
        }

        private static boolean isDigit(int b) {
            return b >= '0' && b <= '9';
        }

        /** Goes on to the next word or sign. */
        private void step() {
            boolean wordAhead = to > from && (isLetter(here()) || isDigit(here()));
            int behind = to;
            from = to;
            while (from < size && bytes[from] == ' ') {
                from++;
            }
            boolean letters = isLetter(here());
            boolean digits = isDigit(here());
            to = Math.min(size, from + 1);
            while (to < size && (letters && isLetter(bytes[to]) || digits && isDigit(bytes[to]))) {
                to++;
            }
            stuck = wordAhead && from == behind && (letters || digits);
        }

        private void readKey(Text text) {
            for (int key = 0; key < KEYS; key++) {
                if (wordIs(keyWord(key))) {
                    text.key = key;
                    step();
                    return;
                }
            }
            fail();
        }

        private static String keyWord(int key) {
            return key == POUR ? "pour" : key == BACK ? "back" : "fine";
        }

        private static String namesOf(int key) {
            return key == POUR ? "pdx" : key == BACK ? "dfw" : "hs";
        }

        private boolean wordIs(String word) {
            if (to - from != word.length()) {
                return false;
            }
            for (int i = 0; i < word.length(); i++) {
                if (bytes[from + i] != word.charAt(i)) {
                    return false;
                }
            }
            return true;
        }

        /** Reads what the signs of one level join; the parts are of the next tighter level. */
        private void readLevel(Text text, int level, int parens, int nots) {
            if (level > TIGHTEST) {
                readPiece(text, parens, nots);
                return;
            }
            readLevel(text, level + 1, parens, nots);
            int most = level == TESTS ? 1 : TAPE_MOST;
            for (int i = 0; i < most && fault == SOUND && joins(level, here()); i++) {
                int sign = here();
                step();
                readLevel(text, level + 1, parens, nots);
                text.addSign(sign);
            }
        }

        private static boolean joins(int level, int sign) {
            switch (level) {
                case 0: return sign == '|';
                case 1: return sign == '&';
                case TESTS: return sign == '<' || sign == '=' || sign == '>';
                case 3: return sign == '+' || sign == '-';
                default: return sign == '*' || sign == '/';
            }
        }

        private void readPiece(Text text, int parens, int nots) {
            if (fault != SOUND) {
                return;
            }
            int first = here();
            if (isLetter(first)) {
                readName(text);
            } else if (isDigit(first)) {
                readNumber(text);
            } else if (first == '!' && nots < OPEN_MOST) {
                step();
                readPiece(text, parens, nots + 1);
                text.addSign('!');
            } else if (first == '(' && parens < OPEN_MOST) {
                step();
                readLevel(text, LOOSEST, parens + 1, nots);
                readClosing();
            } else {
                fail();
            }
        }

        private void readClosing() {
            if (fault != SOUND) {
                return;
            }
            if (here() == ')') {
                step();
            } else {
                fail();
            }
        }

        private void readName(Text text) {
            int which = namesOf(text.key).indexOf((char) here());
            if (stuck || to - from != 1 || which < 0) {
                fail();
                return;
            }
            text.addName(which);
            step();
        }

        private void readNumber(Text text) {
            if (stuck || to - from > DIGITS_MOST) {
                fail();
                return;
            }
            int number = 0;
            for (int i = from; i < to; i++) {
                number = number * 10 + bytes[i] - '0';
            }
            text.addNumber(number);
            step();
        }
    }

    /** A row of whole numbers; NONE stands for NO NUMBER, which is only in rows of floats. */
    private static final class Sheet {
        int sort = MISSING;
        int size = 0;
        final int[] places = new int[PLACES_MOST];

        void renew(int newSort, int newSize) {
            sort = newSort;
            size = newSize;
            for (int i = 0; i < places.length; i++) {
                places[i] = 0;
            }
        }

        void become(Sheet other) {
            sort = other.sort;
            size = other.size;
            System.arraycopy(other.places, 0, places, 0, PLACES_MOST);
        }

        boolean hasNumber(int place) {
            return place >= 0 && place < size && places[place] != NONE;
        }

        boolean hasStretch(int place, int many) {
            return place >= 0 && many >= 0 && place <= size && many <= size - place;
        }

        /** How far the places are from what is DONE there, together; beyond all TABLES 0 stands for DONE. */
        int differsFrom(int[] done) {
            int all = 0;
            for (int k = 0; k < size; k++) {
                if (hasNumber(k)) {
                    int doneThere = k < done.length ? done[k] : 0;
                    all += Math.abs(doneThere - places[k]);
                }
            }
            return all;
        }
    }

    private static final class Slot {
        int holds = HOLDS_NOTHING;
        int kind = 0;
        int pace = 0;
        int number = 0;
        final Sheet sheet = new Sheet();
    }
}
