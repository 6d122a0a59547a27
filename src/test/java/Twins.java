import java.util.Arrays;

/** A picture in which everything holds something, and all that can be seen of a picture. */
final class Twins {
    /** How many HOURS of the image are told in the rich picture. */
    static final int HOURS_TOLD = 3;
    private static final int[] ROWS = rows();

    private Twins() { }

    private static SandPicture kept() {
        SandPicture x = new SandPicture();
        x.seed(77);
        for (int k = 0; k < 6; k++) {
            x.monk(k, 15 + 7 * k, k);
            x.need(k, 20 + 9 * k);
        }
        x.wind(60);
        Due.text(x, "pour p+d/9-x");
        Due.text(x, "back d-f-w");
        Due.text(x, "fine s*3-h");
        x.hours(9);
        x.keep();
        return x;
    }

    private static int[] rows() {
        SandPicture x = kept();
        int[] rows = new int[2 * HOURS_TOLD];
        for (int i = 0; i < HOURS_TOLD; i++) {
            x.hours(1);
            rows[2 * i] = x.grains(1);
            rows[2 * i + 1] = x.grains(2) + x.grains(3) + x.grains(4);
        }
        return rows;
    }

    /**
     * Six MONKS, one of each KIND; three TEXTS in the image and four now; SHEETS 0 (shorts), 1 (floats, NO NUMBER at 1),
     * 2 (no places), 3 (MISSING); SLOTS 0 nothing, 1 MONK 3, 2 SHEET 1, 3 a number, 4 nothing; the rows of the image's
     * HOURS wait; THE TAPE has 24 bytes, a sound text of fine.
     */
    static SandPicture rich() {
        SandPicture x = kept();
        x.hours(4);
        x.turns(0, 4);
        x.turns(0, 0);
        x.set(1, 1, 77);
        x.need(2, 55);
        x.river(1, 431);
        x.wind(35);
        Due.text(x, "back d/2");
        x.sheet(0, 0, 3);
        x.sheet(1, 1, 8);
        x.sheet(2, 0, 0);
        for (int i = 0; i < 3; i++) {
            x.mark(0, i, 30 + i);
        }
        for (int i = 0; i < 8; i++) {
            x.mark(1, i, i == 1 ? SandPicture.NONE : 7 * i - 20);
        }
        x.lay(1, 1, 3);
        x.lay(2, 2, 1);
        x.lay(3, 3, -12345);
        for (int v : ROWS) {
            x.tell(v);
        }
        Due.tape(x, "fine h*7 + s - 12 * (h) ");
        return x;
    }

    private static final class Row {
        private int[] all = new int[512];
        private int size = 0;

        void add(int v) {
            all[size] = v;
            size++;
        }

        int[] cut() {
            return Arrays.copyOf(all, size);
        }
    }

    /** What the picture answers of everything that it holds; it is no longer as it was then. */
    static int[] seen(SandPicture x) {
        Row row = new Row();
        image(x, row);
        for (int slot = 0; slot < 5; slot++) {
            row.add(x.ask(slot, 0));
            row.add(x.rest(slot, 1000003));
            row(x, slot, row);
        }
        for (int sheet = 0; sheet < 4; sheet++) {
            row.add(x.lay(4, 2, sheet));
            row(x, 4, row);
            row.add(x.copy(sheet, 0, 0, 0, 0));
        }
        row.add(x.count(5));
        row.add(x.count(6));
        row.add(x.text());
        row.add(x.fine());
        row.add(x.check(HOURS_TOLD));
        row.add(x.back());
        image(x, row);
        return row.cut();
    }

    private static void row(SandPicture x, int slot, Row row) {
        int got = 0;
        for (int i = 0; i <= 24 && got != SandPicture.INDEX && got != SandPicture.NOTHING; i++) {
            got = x.item(slot, i);
            row.add(got);
        }
    }

    /** All that an image keeps. */
    private static void image(SandPicture x, Row row) {
        for (int what = 0; what < 8; what++) {
            row.add(x.grains(what));
            row.add(what == 5 || what == 6 ? 0 : x.count(what));
        }
        for (int t = 0; t < 6; t++) {
            for (int what = 0; what < 4; what++) {
                row.add(x.table(t, what));
            }
        }
        for (int m = 0; m < x.count(0); m++) {
            for (int what = 0; what < 4; what++) {
                row.add(x.told(m, what));
            }
            row.add(x.does(m, 0, 5));
        }
        for (int key = 0; key < 3; key++) {
            row.add(x.why(key));
        }
        for (int t = 0; t < x.count(4); t++) {
            row.add(x.textTold(t, 0));
            row.add(x.textTold(t, 1));
        }
        row.add(x.fine());
        row.add(x.behind(20, 2));
    }
}
