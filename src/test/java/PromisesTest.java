/** One part or more for each promise of the document: ordinary inputs, edges, wrong inputs. */
public final class PromisesTest {
    private static final int BAD = SandPicture.BAD, NO = SandPicture.NO, FULL = SandPicture.FULL,
            NONE = SandPicture.NONE, NOTHING = SandPicture.NOTHING, KIND = SandPicture.KIND,
            INDEX = SandPicture.INDEX, SIZE = SandPicture.SIZE;
    private static final int LOW = Integer.MIN_VALUE, HIGH = Integer.MAX_VALUE;
    private static final Due DUE = new Due();

    public static void main(String[] args) {
        aNewObject();
        monks();
        tellingMonks();
        kinds();
        turning();
        tables();
        dealing();
        anHour();
        draughts();
        wiping();
        manyHours();
        sneezing();
        behind();
        dryness();
        choices();
        finishing();
        pacing();
        pacingBeyondTables();
        tape();
        texts();
        faults();
        values();
        laws();
        sheets();
        pouring();
        copying();
        slots();
        rows();
        images();
        counts();
        DUE.end();
    }

    private static void part(String name) {
        DUE.part(name);
    }

    private static void is(String call, long got, long want) {
        DUE.is(call, got, want);
    }

    /** A picture in which nothing is left to lot. */
    private static SandPicture calm() {
        SandPicture x = new SandPicture();
        x.wind(0);
        return x;
    }

    private static void aNewObject() {
        part("1 new");
        SandPicture x = new SandPicture();
        int[] counts = {0, 0, 10, 0, 0, 0, 0, 1};
        for (int i = 0; i < counts.length; i++) {
            is("count " + i, x.count(i), counts[i]);
        }
        int[] grains = {0, 0, 1000, 1000, 1000, 0, 0, 0};
        for (int i = 0; i < grains.length; i++) {
            is("grains " + i, x.grains(i), grains[i]);
        }
        int[] table = {100, 0, 0, 0};
        for (int t = 0; t < 6; t++) {
            for (int w = 0; w < 4; w++) {
                is("table " + t + " " + w, x.table(t, w), table[w]);
            }
        }
        for (int i = 0; i < 5; i++) {
            is("slot " + i, x.item(i, 0), NOTHING);
        }
        for (int i = 0; i < 4; i++) {
            is("sheet " + i, x.reads(i), NOTHING);
        }
        is("back", x.back(), NO);
        for (int k = 0; k < 3; k++) {
            is("why " + k, x.why(k), NONE);
        }
    }

    private static void monks() {
        part("2 monk");
        SandPicture x = new SandPicture();
        is("least", x.monk(0, 1, 0), 0);
        is("most", x.monk(5, 99, 5), 1);
        int[][] bad = {{-1, 5, 0}, {6, 5, 0}, {0, 0, 0}, {0, 100, 0}, {0, 5, -1}, {0, 5, 6}, {LOW, LOW, LOW}, {HIGH, HIGH, HIGH}};
        for (int[] b : bad) {
            is("bad", x.monk(b[0], b[1], b[2]), BAD);
        }
        for (int i = 2; i < 10; i++) {
            is("monk", x.monk(0, 5, 0), i);
        }
        is("full", x.monk(0, 5, 0), FULL);
        is("bad stands ahead of full", x.monk(0, 0, 0), BAD);
        is("count", x.count(0), 10);
    }

    private static void tellingMonks() {
        part("3 told");
        SandPicture x = new SandPicture();
        int[] worth = {70, 76, 29, 152, 20, 4};
        for (int k = 0; k < 6; k++) {
            x.monk(k, 70, 5 - k);
            is("kind", x.told(k, 0), k);
            is("pace", x.told(k, 1), 70);
            is("at", x.told(k, 2), 5 - k);
            is("worth", x.told(k, 3), worth[k]);
        }
        x.set(4, 1, 99);
        is("worth below 0", x.told(4, 3), -9);
        is("bad", x.told(6, 0), BAD);
        is("bad", x.told(-1, 0), BAD);
        is("bad", x.told(0, 4), BAD);
        is("bad", x.told(0, -1), BAD);
    }

    private static void kinds() {
        part("4 does");
        SandPicture x = new SandPicture();
        for (int k = 0; k < 6; k++) {
            x.monk(k, 15, k);
        }
        int[] pours = {15, 7, 24, 4, 48, 9};
        int[] spillsOf39 = {0, 0, 3, 0, 4, 0};
        int[] spillsOf9 = {0, 0, 0, 0, 1, 0};
        int[] addsOf9 = {0, 0, 0, 0, 1, 1};
        int[] addsOf10 = {0, 0, 1, 0, 1, 1};
        int[] addsOf0 = {0, 0, 0, 0, 0, 1};
        for (int k = 0; k < 6; k++) {
            is("pours " + k, x.does(k, 0, 9), pours[k]);
            is("spills 39 " + k, x.does(k, 1, 39), spillsOf39[k]);
            is("spills 9 " + k, x.does(k, 1, 9), spillsOf9[k]);
            is("spills 0 " + k, x.does(k, 1, 0), 0);
            is("adds 9 " + k, x.does(k, 2, 9), addsOf9[k]);
            is("adds 10 " + k, x.does(k, 2, 10), addsOf10[k]);
            is("adds 0 " + k, x.does(k, 2, 0), addsOf0[k]);
        }
        is("proud of 1", x.does(4, 1, 1), 1);
        is("proud of 1", x.does(4, 2, 1), 1);
        is("most", x.does(4, 1, 999), 100);
        x.set(3, 1, 1);
        is("old, 0 at least", x.does(3, 0, 9), 0);
        x.set(5, 1, 3);
        is("guest below 9", x.does(5, 0, 0), 3);
        int[][] bad = {{-1, 0, 0}, {6, 0, 0}, {0, -1, 0}, {0, 3, 0}, {0, 0, 10}, {0, 0, -1}, {0, 1, 1000}, {0, 1, -1}, {0, 2, 1000}, {0, 2, -1}};
        for (int[] b : bad) {
            is("bad", x.does(b[0], b[1], b[2]), BAD);
        }
        part("5 as");
        String[] under = {"0", "01", "02", "013", "024", "05"};
        for (int m = 0; m < 6; m++) {
            x.set(m, 1, 30 + m);
            for (int k = 0; k < 6; k++) {
                is("as " + m + " " + k, x.as(m, k), under[m].indexOf('0' + k) >= 0 ? 30 + m : KIND);
            }
        }
        is("bad", x.as(6, 0), BAD);
        is("bad", x.as(-1, 0), BAD);
        is("bad", x.as(0, 6), BAD);
        is("bad", x.as(0, -1), BAD);
    }

    private static void turning() {
        part("6 turns");
        SandPicture x = new SandPicture();
        x.monk(2, 20, 3);
        is("turns", x.turns(0, 3), 2);
        is("now", x.told(0, 0), 3);
        is("pours now", x.does(0, 0, 9), 7);
        is("the same", x.turns(0, 3), 3);
        is("bad", x.turns(1, 0), BAD);
        is("bad", x.turns(-1, 0), BAD);
        is("bad", x.turns(0, 6), BAD);
        is("bad", x.turns(0, -1), BAD);
        is("as it was", x.told(0, 0), 3);
        part("7 set");
        is("pace", x.set(0, 1, 99), 20);
        is("pace", x.set(0, 1, 1), 99);
        is("at", x.set(0, 2, 5), 3);
        is("at", x.set(0, 2, 0), 5);
        int[][] bad = {{1, 1, 5}, {-1, 1, 5}, {0, 0, 1}, {0, 3, 1}, {0, 1, 0}, {0, 1, 100}, {0, 2, -1}, {0, 2, 6}};
        for (int[] b : bad) {
            is("bad", x.set(b[0], b[1], b[2]), BAD);
        }
        is("pace stays", x.told(0, 1), 1);
        is("at stays", x.told(0, 2), 0);
    }

    private static void tables() {
        part("8 table, 9 need");
        SandPicture x = new SandPicture();
        for (int t = 0; t < 6; t++) {
            is("need", x.need(t, 999 - t), 100);
            is("table", x.table(t, 0), 999 - t);
        }
        is("need", x.need(5, 1), 994);
        is("bad", x.need(0, 0), BAD);
        is("bad", x.need(0, 1000), BAD);
        is("bad", x.need(6, 5), BAD);
        is("bad", x.need(-1, 5), BAD);
        is("bad", x.table(-1, 0), BAD);
        is("bad", x.table(6, 0), BAD);
        is("bad", x.table(0, -1), BAD);
        is("bad", x.table(0, 4), BAD);
        part("10 river");
        is("river", x.river(2, 0), 1000);
        is("river", x.river(2, 99999), 0);
        is("grains", x.grains(4), 99999);
        is("bad", x.river(2, 100000), BAD);
        is("bad", x.river(2, -1), BAD);
        is("bad", x.river(3, 0), BAD);
        is("bad", x.river(-1, 0), BAD);
        is("as it was", x.grains(4), 99999);
        part("11 wind");
        is("wind", x.wind(100), 10);
        is("wind", x.wind(0), 100);
        is("bad", x.wind(-1), BAD);
        is("bad", x.wind(101), BAD);
        is("count", x.count(2), 0);
    }

    private static int drawn(int[] z) {
        z[0] = z[0] * 1103515245 + 12345;
        return z[0] >>> 8;
    }

    private static void dealing() {
        part("12 deal, 13 seed");
        SandPicture x = new SandPicture();
        is("seed", x.seed(-77), 1);
        is("seed", x.seed(99), -77);
        int[] z = {99};
        is("deal", x.deal(7), 7);
        for (int m = 0; m < 7; m++) {
            is("kind", x.told(m, 0), drawn(z) % 6);
            is("pace", x.told(m, 1), 1 + drawn(z) % 20);
            is("at", x.told(m, 2), drawn(z) % 6);
        }
        is("z", x.count(7), z[0]);
        is("bad", x.deal(0), BAD);
        is("bad", x.deal(11), BAD);
        is("room for 3", x.deal(10), 3);
        for (int i = 0; i < 9; i++) {
            drawn(z);
        }
        is("no draws for others", x.count(7), z[0]);
        is("no room", x.deal(1), 0);
        is("no draws", x.count(7), z[0]);
    }

    private static void anHour() {
        part("14 hours: pouring");
        SandPicture x = calm();
        x.monk(0, 30, 4);
        int[] z = {1};
        drawn(z);
        drawn(z);
        is("hours", x.hours(1), 0);
        is("a draw for each monk, one for the wind", x.count(7), z[0]);
        is("done", x.table(4, 1), 30);
        is("river of table 4", x.grains(3), 970);
        is("hour", x.count(1), 1);
        x.river(1, 7);
        x.hours(1);
        is("no more than the sand", x.table(4, 1), 37);
        is("dry", x.grains(3), 0);
        x.river(1, 500);
        x.need(4, 40);
        is("no more than the need", x.hours(1), 1);
        is("wiped", x.table(4, 3), 1);
        is("all comes back", x.grains(3), 500 - 3 + 40);

        SandPicture over = calm();
        over.monk(5, 9, 0);
        over.hours(2);
        is("18 done", over.table(0, 1), 18);
        is("2 faults", over.table(0, 2), 2);
        over.need(0, 5);
        over.hours(1);
        is("need less done is 0 at least", over.grains(2), 1000);
        is("nothing poured", over.table(0, 3), 1);

        SandPicture novice = calm();
        novice.monk(2, 50, 2);
        int x0 = drawn(new int[] {1}) % 10;
        novice.hours(1);
        is("spilt", novice.grains(0), 5);
        is("done", novice.table(2, 1), 45 + x0);
        is("a fault", novice.table(2, 2), 1);
        is("count of faulty tables", novice.count(3), 1);
        is("no sand is lost", novice.grains(0) + novice.grains(1) + novice.grains(4), 1000);

        SandPicture held = calm();
        Due.text(held, "back 0");
        held.monk(0, 30, 2);
        held.hours(1);
        held.need(2, 40);
        held.hours(1);
        is("ten more, and no more", held.grains(4), 960);
        held.hours(1);
        held.need(2, 20);
        held.hours(1);
        is("none, if more is done than is needed", held.grains(4), 930);
        is("all of it is spilt", held.grains(0), 70);
        held.river(2, 7);
        held.river(0, 3);
        held.hours(1);
        is("the sand of its own river", held.table(2, 1), 7);

        SandPicture dry = calm();
        dry.monk(5, 9, 0);
        dry.river(0, 0);
        dry.hours(3);
        is("no fault if nothing is poured", dry.table(0, 2), 0);
    }

    private static void draughts() {
        part("14 hours: draughts");
        SandPicture x = new SandPicture();
        x.wind(0);
        x.monk(0, 95, 5);
        x.hours(1);
        x.wind(100);
        x.set(0, 2, 3);
        x.river(0, 0);
        int from = -1;
        for (int seed = 0; seed < 1000 && from != 5; seed++) {
            int[] z = {seed};
            drawn(z);
            drawn(z);
            from = drawn(z) % 6;
            if (from == 5) {
                x.seed(seed);
            }
        }
        x.hours(1);
        is("left", x.table(5, 1), 86);
        is("blown round", x.table(0, 1), 9);
        is("fault there", x.table(0, 2), 1);
        is("no fault here", x.table(5, 2), 0);
        is("nothing is spilt", x.grains(0), 0);

        SandPicture few = calm();
        few.monk(0, 9, 0);
        few.hours(1);
        few.river(0, 0);
        few.wind(100);
        few.hours(50);
        is("a tenth of 9 is none", few.table(0, 1), 9);
        is("no faults", few.grains(5), 0);

        SandPicture one = calm();
        one.monk(0, 10, 0);
        one.hours(1);
        one.river(0, 0);
        one.wind(100);
        one.hours(50);
        is("one grain is blown", one.table(0, 1), 9);
        is("it lies at the next table", one.table(1, 1), 1);
        is("one fault", one.table(1, 2), 1);
        is("one fault of all", one.grains(5), 1);

        for (int seed = 0; seed < 300; seed++) {
            int[] lot = {seed};
            int rest = drawn(lot) % 100;
            SandPicture below = calm();
            below.seed(seed);
            below.wind(rest);
            below.hours(1);
            is("not below the wind", below.count(7), lot[0]);
            below.seed(seed);
            below.wind(rest + 1);
            below.hours(1);
            drawn(lot);
            is("below the wind", below.count(7), lot[0]);
        }

        SandPicture draws = calm();
        int[] z = {1};
        for (int i = 0; i < 3; i++) {
            drawn(z);
        }
        draws.hours(3);
        is("a draw an hour without wind", draws.count(7), z[0]);
        draws.wind(100);
        for (int i = 0; i < 6; i++) {
            drawn(z);
        }
        draws.hours(3);
        is("two with it", draws.count(7), z[0]);
    }

    private static void wiping() {
        part("14 hours: wiping");
        SandPicture x = calm();
        for (int t = 0; t < 6; t++) {
            x.monk(0, 10 + t, t);
            x.need(t, 10 + t);
        }
        is("all at once", x.hours(1), 6);
        is("ends", x.grains(7), 1);
        is("wiped", x.grains(6), 6);
        x.need(5, 16);
        is("but one", x.hours(1), 5);
        is("no end", x.grains(7), 1);
        is("one left", x.grains(1), 15);

        SandPicture high = calm();
        high.monk(0, 60, 1);
        high.monk(0, 60, 4);
        high.need(1, 60);
        high.river(1, 60);
        high.hours(1);
        is("all came back", high.grains(3), 60);
        high.need(1, 70);
        high.hours(1);
        is("sixty are done", high.table(1, 1), 60);
        high.river(1, 99995);
        high.need(1, 60);
        high.need(4, 999);
        high.set(1, 1, 1);
        high.hours(1);
        is("what would be above is spilt", high.grains(0), 55);
        is("full river", high.grains(3), 99999);
    }

    private static void manyHours() {
        part("14 hours: bounds");
        SandPicture x = calm();
        is("bad", x.hours(0), BAD);
        is("bad", x.hours(101), BAD);
        is("bad", x.hours(-1), BAD);
        for (int i = 0; i < 99; i++) {
            x.hours(100);
        }
        is("9900", x.count(1), 9900);
        x.hours(95);
        int z = x.count(7);
        x.hours(4);
        is("9999", x.count(1), 9999);
        int last = x.count(7);
        x.monk(0, 99, 0);
        x.need(0, 1);
        is("no more", x.hours(100), 0);
        is("z stays", x.count(7), last);
        is("thought goes on", x.behind(3, 0), 3);
        is("hour stays", x.count(1), 9999);
        is("z differs from four hours ago", z == last ? 1 : 0, 0);

        SandPicture short9 = calm();
        for (int i = 0; i < 99; i++) {
            short9.hours(100);
        }
        short9.hours(97);
        short9.monk(0, 99, 0);
        short9.need(0, 1);
        is("two left", short9.hours(3), 2);
    }

    private static void sneezing() {
        part("15 grains, 16 sneeze");
        SandPicture x = calm();
        x.monk(5, 9, 2);
        x.monk(0, 20, 3);
        x.hours(2);
        is("done", x.grains(1), 58);
        is("faults", x.grains(5), 2);
        is("sneeze", x.sneeze(2), 18);
        is("none left", x.table(2, 1), 0);
        is("faults stay", x.table(2, 2), 2);
        is("spilt", x.grains(0), 18);
        is("again", x.sneeze(2), 0);
        is("bad", x.sneeze(6), BAD);
        is("bad", x.sneeze(-1), BAD);
        is("bad", x.grains(8), BAD);
        is("bad", x.grains(-1), BAD);
        is("sand", x.grains(2), 960);
        is("sand", x.grains(4), 982);
    }

    private static SandPicture busy(int seed) {
        SandPicture x = new SandPicture();
        x.seed(seed);
        x.deal(6);
        x.wind(40);
        for (int t = 0; t < 6; t++) {
            x.need(t, 10 + 5 * t);
        }
        x.hours(7);
        return x;
    }

    private static void behind() {
        part("17 behind, 18 lacks");
        for (int n = 0; n <= 100; n += 10) {
            SandPicture thought = busy(5);
            int[] told = {thought.behind(n, 0), thought.behind(n, 1), thought.behind(n, 2), thought.behind(n, 3)};
            int lacks = thought.lacks(n);
            SandPicture real = busy(5);
            if (n > 0) {
                real.hours(n);
            }
            is("wiped", told[0], real.grains(6));
            is("faults", told[1], real.grains(5));
            is("spilt", told[2], real.grains(0));
            is("ends", told[3], real.grains(7));
            int set = 0;
            for (int t = 0; t < 6; t++) {
                set |= real.table(t, 1) < real.table(t, 0) / 2 ? 1 << t : 0;
            }
            is("lacks", lacks, set);
            is("z stays", thought.count(7), busy(5).count(7));
            is("nothing changes", thought.grains(1), busy(5).grains(1));
        }
        SandPicture x = calm();
        x.monk(0, 50, 0);
        x.monk(0, 49, 1);
        x.need(2, 1);
        is("half", x.lacks(1), 2 + 8 + 16 + 32);
        x.need(1, 99);
        is("half, cut", x.lacks(1), 8 + 16 + 32);
        is("bad", x.behind(-1, 0), BAD);
        is("bad", x.behind(101, 0), BAD);
        is("bad", x.behind(0, 4), BAD);
        is("bad", x.behind(0, -1), BAD);
        is("bad", x.lacks(-1), BAD);
        is("bad", x.lacks(101), BAD);
    }

    private static void dryness() {
        part("19 dry");
        SandPicture x = calm();
        x.monk(0, 1, 0);
        x.need(0, 999);
        x.river(0, 300);
        is("300", x.dry(0), 300);
        x.river(0, 301);
        is("301", x.dry(0), NONE);
        x.river(0, 1);
        is("1", x.dry(0), 1);
        x.river(0, 0);
        is("0", x.dry(0), 0);
        is("other", x.dry(1), NONE);
        is("bad", x.dry(3), BAD);
        is("bad", x.dry(-1), BAD);
        is("nothing changes", x.count(1), 0);
    }

    private static void choices() {
        part("20 goes");
        SandPicture x = calm();
        x.monk(0, 10, 0);
        x.monk(0, 10, 1);
        x.need(3, 10);
        x.need(4, 5);
        is("table", x.goes(0, 4, 0), 3);
        is("wiped", x.goes(0, 4, 1), 4);
        is("both", x.goes(1, 10, 1), 11);
        x.need(3, 999);
        x.need(4, 999);
        is("of several the least", x.goes(0, 1, 0), 0);
        is("none", x.goes(0, 1, 1), 0);
        is("at stays", x.told(0, 2), 0);
        int[][] bad = {{2, 1, 0}, {-1, 1, 0}, {0, 0, 0}, {0, 61, 0}, {0, 1, 2}, {0, 1, -1}};
        for (int[] b : bad) {
            is("bad", x.goes(b[0], b[1], b[2]), BAD);
        }
        SandPicture all = calm();
        all.monk(0, 10, 5);
        all.need(5, 10);
        all.hours(3);
        is("wiped of all, from the first hour on", all.goes(0, 60, 1), 63);

        part("21 blamed");
        SandPicture y = calm();
        is("none", y.blamed(1), NONE);
        is("bad stands ahead", y.blamed(0), BAD);
        is("bad", y.blamed(61), BAD);
        y.monk(0, 10, 0);
        y.monk(2, 9, 1);
        y.monk(4, 40, 2);
        is("proud", y.blamed(1), 2);
        is("proud", y.blamed(60), 2);
        y.turns(2, 0);
        y.turns(1, 0);
        is("of several the least", y.blamed(60), 0);
        SandPicture draws = calm();
        draws.monk(0, 1, 0);
        draws.monk(2, 5, 1);
        int z = draws.count(7);
        draws.blamed(60);
        is("z stays", draws.count(7), z);
    }

    private static void finishing() {
        part("22 never, 23 slower");
        SandPicture x = calm();
        is("none", x.never(), NONE);
        for (int t = 0; t < 6; t++) {
            x.monk(0, 1, t);
            x.need(t, 300);
        }
        is("300", x.never(), 300);
        x.need(0, 301);
        is("301", x.never(), NONE);
        for (int t = 0; t < 6; t++) {
            x.need(t, 2);
        }
        is("2", x.never(), 2);
        is("the others are not done within one hour", x.slower(0, 1), 99);
        for (int t = 0; t < 6; t++) {
            x.need(t, t == 0 ? 40 : 20);
        }
        is("not done in every, every second hour", x.slower(0, 20), 19);
        is("the others are not done by then", x.slower(0, 19), 99);
        for (int t = 1; t < 6; t++) {
            x.need(t, 1);
        }
        is("one at least each hour", x.slower(0, 1), 39);
        is("39 would be done in two", x.slower(0, 2), 19);
        x.need(0, 2);
        is("the least pace", x.slower(0, 1), 1);
        x.need(0, 1);
        is("none", x.slower(0, 1), NONE);
        is("pace stays", x.told(0, 1), 1);
        x.hours(1);
        is("ends", x.grains(7), 1);
        is("more than now", x.never(), 1);
        x.need(0, 30);
        is("as now, not 0", x.slower(0, 1), 29);
        is("bad", x.slower(6, 1), BAD);
        is("bad", x.slower(-1, 1), BAD);
        is("bad", x.slower(0, 0), BAD);
        is("bad", x.slower(0, 21), BAD);
    }

    private static void pacing() {
        part("24 paced");
        SandPicture x = calm();
        x.monk(0, 7, 0);
        x.monk(1, 30, 1);
        x.sheet(0, 0, 0);
        is("no places: the least", x.paced(0, 0, 0), 1);
        is("no places", x.paced(0, 0, 1), 0);
        x.sheet(0, 0, 8);
        x.mark(0, 0, 41);
        x.mark(0, 1, 10);
        x.mark(0, 7, 500);
        is("40 at most", x.paced(0, 0, 0), 40);
        is("beyond all tables from 0", x.paced(0, 0, 1), 1 + 5 + 500);
        is("slow, of several the least", x.paced(0, 1, 0), 20);
        is("differences", x.paced(0, 1, 1), 34 + 500);
        x.sheet(1, 1, 2);
        x.mark(1, 0, NONE);
        x.mark(1, 1, -3);
        is("no number", x.paced(1, 1, 0), 1);
        is("signs left out", x.paced(1, 1, 1), 3);
        is("pace stays", x.told(1, 1), 30);
        is("nothing", x.paced(2, 0, 0), NOTHING);
        is("bad ahead of nothing", x.paced(2, 2, 0), BAD);
        is("bad ahead of nothing", x.paced(2, 0, 2), BAD);
        is("bad", x.paced(4, 0, 0), BAD);
        is("bad", x.paced(-1, 0, 0), BAD);
        is("bad", x.paced(0, -1, 0), BAD);
        is("bad", x.paced(0, 0, -1), BAD);
        x.need(0, 20);
        x.mark(0, 0, 0);
        x.mark(0, 1, 15);
        x.mark(0, 7, 0);
        is("wiped behind one hour", x.paced(0, 0, 0), 20);
        is("wiped behind one hour", x.paced(0, 0, 1), 0);
    }

    private static void pacingBeyondTables() {
        part("24 paced, beyond all tables");
        SandPicture x = calm();
        x.monk(0, 7, 5);
        x.sheet(0, 0, 6);
        x.mark(0, 5, 9);
        is("the last table is one", x.paced(0, 0, 0), 9);
        is("the last table is one", x.paced(0, 0, 1), 0);
        x.sheet(0, 0, 7);
        x.mark(0, 5, 9);
        x.mark(0, 6, 1);
        is("the first place beyond", x.paced(0, 0, 1), 1);
        x.mark(0, 6, -32768);
        is("shorts, signs left out", x.paced(0, 0, 1), 32768);
        is("the pace does not hang on it", x.paced(0, 0, 0), 9);
        x.sheet(1, 1, 24);
        x.mark(1, 5, 3);
        for (int k = 6; k < 24; k++) {
            x.mark(1, k, k % 2 == 0 ? 99999 : -99999);
        }
        is("floats, each place", x.paced(1, 0, 1), 18 * 99999);
        x.mark(1, 23, NONE);
        is("no number does not count", x.paced(1, 0, 1), 17 * 99999);
        x.mark(1, 5, NONE);
        is("no place of a table: the least", x.paced(1, 0, 0), 1);
        is("no place of a table", x.paced(1, 0, 1), 17 * 99999);
    }

    private static void tape() {
        part("26 feed, 27 trim");
        SandPicture x = new SandPicture();
        for (int i = 1; i <= 8; i++) {
            is("feed", x.feed(0, 0, 0), 12 * i);
        }
        is("full", x.feed(0, 0, 0), FULL);
        is("as it was", x.count(6), 96);
        is("bad", x.trim(97), BAD);
        is("bad", x.trim(-1), BAD);
        is("all", x.trim(96), 96);
        is("trim", x.trim(85), 85);
        is("full", x.feed(0, 0, 0), FULL);
        is("trim", x.trim(84), 84);
        is("feed", x.feed(0, 0, 0), 96);
        is("none", x.trim(0), 0);
        is("bad", x.trim(1), BAD);
        is("highest first", x.feed(0x66696e65, 0x20312b32, 0x2a332020), 12);
        is("text", x.text(), 0);
        is("used up", x.count(6), 0);
        is("1+2*3", x.fine(), 7);
        Due.tape(x, "fine 12+34");
        x.trim(6);
        is("what is trimmed away is gone", x.text(), 1);
        is("what is trimmed away is gone", x.fine(), 1);
        Due.tape(x, "fine 12+34");
        x.trim(7);
        is("what is trimmed away is gone", x.text(), 2);
        is("what is trimmed away is gone", x.fine(), 12);
        x.feed(0x66696e65, 0x20312b80, 0);
        is("a byte above 127 is a sign", x.text(), -107);
        is("used up", x.count(6), 0);
    }

    private static void texts() {
        part("28 text, 29 textTold, 30 why");
        SandPicture x = new SandPicture();
        is("none", x.why(0), NONE);
        is("bad", x.why(3), BAD);
        is("bad", x.why(-1), BAD);
        is("text", Due.text(x, "pour p+d*x"), 0);
        is("text", Due.text(x, "  back ( ( d ) )  "), 1);
        is("text", Due.text(x, "fine!!(h|s)"), 2);
        is("text", Due.text(x, "fine 0012-h"), 3);
        int[][] told = {{0, 3}, {1, 1}, {2, 2}, {2, 2}};
        for (int i = 0; i < told.length; i++) {
            is("key", x.textTold(i, 0), told[i][0]);
            is("leaves", x.textTold(i, 1), told[i][1]);
        }
        is("last one", x.why(2), 3);
        is("why", x.why(0), 0);
        is("why", x.why(1), 1);
        is("bad", x.textTold(4, 0), BAD);
        is("bad", x.textTold(-1, 0), BAD);
        is("bad", x.textTold(0, 2), BAD);
        is("bad", x.textTold(0, -1), BAD);
        for (int i = 4; i < 14; i++) {
            is("text", Due.text(x, "pour " + i), i);
        }
        is("full", Due.text(x, "pour 1"), FULL);
        is("used up", x.count(6), 0);
        is("a fault stands ahead of full", Due.text(x, "pour"), -104);
        is("used up", x.count(6), 0);
        is("14", x.count(4), 14);
        is("why stays", x.why(0), 13);
    }

    private static void faults() {
        part("28 text: faults");
        String open8 = "((((((((";
        String shut8 = "))))))))";
        String not8 = "!!!!!!!!";
        String[] texts = {
            "", "     ", "pour", "pour  ", "xour 1", "pours 1", "pourz 1", "poura 1", "po ur 1", "Pour 1", "12", "pour12", "pour p12", "pour 12p",
            "pour 1 2", "pour 12345", "pour 00000", "pour h", "back p", "fine d", "pour pd", "pour +1", "pour 1+", "pour 1+ ",
            "pour 1++2", "pour (", "pour ()", "pour (1", "pour 1)", "pour (1))", "pour 1<2<3", "pour 1<2=3", "pour 1<2|3<4<5",
            "pour !", "pour 1!", "pour p(", "pour P", "pour 1,2", "pour 1\t", "pour\n1", "pour 1=", "pour pour 1", "pour 1 & | 2",
            "pour " + open8 + "(1)" + shut8, "pour " + not8 + "!1", "fine" + open8 + "h" + shut8 + "+(" + open8,
            "pour !(!(!(!(!(!(!(!(!p))))))))", "back 1%2", "fine -h", "fine h-", "fine 99999999999", "pourback 1", "p", "pour x1", "fine s<h>s", "fine 1\0", "fine \0"};
        int[] places = {
            0, 5, 4, 6, 0, 0, 0, 0, 0, 0, 0, 4, 6, 7,
            7, 5, 5, 5, 5, 5, 5, 5, 7, 8,
            7, 6, 6, 7, 6, 8, 8, 8, 12,
            6, 6, 6, 5, 6, 6, 4, 7, 5, 9,
            13, 13, 30,
            21, 6, 5, 7, 5, 0, 0, 6, 8, 6, 5};
        is("as many", texts.length, places.length);
        for (int i = 0; i < texts.length && i < places.length; i++) {
            SandPicture x = new SandPicture();
            is("[" + texts[i] + "]", Due.text(x, texts[i]), -100 - places[i]);
            is("used up", x.count(6), 0);
            is("none told", x.count(4), 0);
        }
        String[] sound = {"pour " + open8 + "1" + shut8, "pour " + not8 + "1", "pour " + open8 + not8 + "p" + shut8,
            "pour " + not8 + "(" + "p)+" + not8 + "x", "pour (1)*(2)+((3))", "pour 9999", "pour(p)", "pour!p", "fine h<s=0", "pour 1<2&3>2|!x=1"};
        for (String s : sound) {
            SandPicture x = new SandPicture();
            is("[" + s + "]", Due.text(x, s), s.equals("fine h<s=0") ? -108 : 0);
        }
    }

    private static void values() {
        part("25 fine, values of texts");
        SandPicture x = calm();
        is("without a text: spilt", x.fine(), 0);
        x.monk(0, 20, 0);
        x.hours(3);
        x.sneeze(0);
        is("spilt", x.fine(), 60);
        String[] texts = {
            "2<2", "2>2", "1=2", "h", "s", "h+s*2", "s/h/2", "s-h-1", "7/0", "0/0", "(0-7)/2", "7/(0-2)", "1|0", "0|0", "5|0", "2&1", "2&0", "5", "!5", "!0", "!!5",
            "1<2", "2<1", "2=2", "2>1", "1>2", "3>2&1", "1+2<4", "1<2+0=1", "9999*9999*9999", "(0-9999*9999*30)/(0-1)",
            "1|1&0", "!1+1", "!h=0", "2*3+4*5", "100/10*2", "h=3", "1=1|0=1&0", "8-2*3", "((s))", "2&1|0", "3<4&4<5", "s>h|h/0"};
        int[] due = {
            0, 0, 0, 3, 60, 123, 10, 56, 0, 0, -3, -3, 1, 0, 1, 1, 0, 5, 0, 1, 1,
            1, 0, 1, 1, 0, 1, 1, NONE, 9999 * 9999 * 9999, -(0 - 9999 * 9999 * 30),
            1, 1, 1, 26, 20, 1, 1, 2, 60, 1, 1, 1};
        is("as many", texts.length, due.length);
        x.keep();
        for (int i = 0; i < texts.length && i < due.length; i++) {
            int told = Due.text(x, "fine " + texts[i]);
            if (due[i] == NONE) {
                is("[" + texts[i] + "]", told, -110);
            } else {
                is("[" + texts[i] + "]", told, 0);
                is("[" + texts[i] + "]", x.fine(), due[i]);
            }
            x.back();
        }
        Due.text(x, "fine !5)");
        Due.text(x, "fine 7");
        is("nothing is left of a text that had a fault", x.fine(), 7);
        Due.text(x, "fine (0-2048*2048)*512/(0-1)");
        is("the least int by -1 wraps", x.fine(), LOW);
    }

    private static void laws() {
        part("laws of pour and back");
        SandPicture x = calm();
        for (int k = 0; k < 6; k++) {
            x.monk(k, 10 + k, k);
        }
        x.hours(1);
        int done = x.table(0, 1);
        Due.text(x, "pour p*1000");
        int[] most = {999, 499, 1008, 496, 2016, 9};
        for (int k = 0; k < 6; k++) {
            is("held within 999", x.does(k, 0, 9), most[k]);
        }
        Due.text(x, "pour 0-p");
        int[] least = {0, 0, 9, 0, 18, 0};
        for (int k = 0; k < 6; k++) {
            is("held within 0", x.does(k, 0, 9), least[k]);
        }
        Due.text(x, "pour p*100+d*10+x");
        is("p, d, x", x.does(0, 0, 7), Math.min(999, 1000 + done * 10 + 7));
        Due.text(x, "pour p+d*10+x");
        is("p, d, x", x.does(0, 0, 7), 10 + done * 10 + 7);

        SandPicture y = calm();
        y.monk(5, 9, 1);
        y.need(1, 27);
        Due.text(y, "back d/2+f*2+w");
        y.hours(3);
        is("half and two a fault", y.grains(3), 1000 - 27 + 13 + 6);
        is("the rest is spilt", y.grains(0), 27 - 13 - 6);
        int sand = y.grains(3);
        y.hours(3);
        is("w ahead of this one", y.grains(3), sand - 27 + 13 + 6 + 1);
        Due.text(y, "back 0-1");
        sand = y.grains(3);
        int spilt = y.grains(0);
        y.hours(3);
        is("0 at least", y.grains(3), sand - 27);
        is("all is spilt", y.grains(0), spilt + 27);
        Due.text(y, "back d*2");
        sand = y.grains(3);
        y.hours(3);
        is("done at most", y.grains(3), sand);
        is("the last counts", y.why(1), 2);

        SandPicture later = calm();
        later.monk(0, 10, 0);
        later.monk(0, 20, 0);
        Due.text(later, "pour p+d");
        later.hours(1);
        is("d is what it is when the monk pours", later.table(0, 1), 40);
    }

    private static void sheets() {
        part("31 sheet, 32 mark");
        SandPicture x = new SandPicture();
        is("none", x.sheet(0, 0, 0), 0);
        is("shorts", x.sheet(0, 0, 24), 24);
        is("floats", x.sheet(3, 1, 24), 24);
        is("missing, n any", x.sheet(3, -1, 99), 0);
        is("missing, n any", x.sheet(3, -1, -99), 0);
        is("missing", x.mark(3, 0, 1), NOTHING);
        is("bad", x.sheet(4, 0, 1), BAD);
        is("bad", x.sheet(-1, 0, 1), BAD);
        is("bad", x.sheet(0, 2, 1), BAD);
        is("bad", x.sheet(0, -2, 1), BAD);
        is("bad", x.sheet(0, 0, 25), BAD);
        is("size", x.sheet(0, 0, -1), SIZE);
        is("bad ahead of size", x.sheet(0, 2, -1), BAD);
        is("as it was", x.mark(0, 23, 5), 1);
        is("index", x.mark(0, 24, 5), INDEX);
        is("index", x.mark(0, -1, 5), INDEX);
        is("index ahead of kind", x.mark(0, 24, NONE), INDEX);
        is("kind", x.mark(0, 0, NONE), KIND);
        is("bad", x.mark(4, 0, 1), BAD);
        is("bad", x.mark(-1, 0, 1), BAD);
        is("nothing ahead of index", x.mark(2, 99, 1), NOTHING);
        int[] given = {32767, 32768, 65535, 65536, -32769, HIGH, LOW, BAD};
        int[] kept = {32767, -32768, -1, 0, 32767, -1, 0, (short) BAD};
        for (int i = 0; i < given.length; i++) {
            x.mark(0, i, given[i]);
        }
        x.lay(0, 2, 0);
        for (int i = 0; i < kept.length; i++) {
            is("lowest 16 bits", x.item(0, i), kept[i]);
        }
        x.sheet(1, 1, 3);
        is("floats", x.mark(1, 0, 99999), 1);
        is("floats", x.mark(1, 1, -99999), 1);
        is("no number", x.mark(1, 2, NONE), 1);
        is("bad", x.mark(1, 0, 100000), BAD);
        is("bad", x.mark(1, 0, -100000), BAD);
        is("index ahead of bad", x.mark(1, 3, 100000), INDEX);
        x.lay(1, 2, 1);
        is("as it was", x.item(1, 0), 99999);
        is("as it was", x.item(1, 1), -99999);
        is("no number", x.item(1, 2), KIND);
        x.sheet(1, 1, 3);
        x.lay(1, 2, 1);
        is("all 0 again", x.item(1, 0), 0);
        is("all 0 again", x.item(1, 2), 0);
    }

    private static void pouring() {
        part("33 pour, 34 reads");
        SandPicture x = calm();
        x.sheet(0, 1, 8);
        int[] marks = {NONE, 0, 5000, 100, 44, -7, 9, 9};
        for (int i = 0; i < marks.length; i++) {
            x.mark(0, i, marks[i]);
        }
        is("pour", x.pour(0), 4);
        int[] need = {100, 1, 999, 100, 44, 1};
        for (int t = 0; t < 6; t++) {
            is("need", x.table(t, 0), need[t]);
        }
        is("again", x.pour(0), 0);
        x.sheet(1, 0, 1);
        x.mark(1, 0, 50);
        is("beyond it stays", x.pour(1), 1);
        is("beyond it stays", x.table(1, 0), 1);
        x.sheet(2, 0, 0);
        is("no places", x.pour(2), 0);
        is("nothing", x.pour(3), NOTHING);
        is("bad", x.pour(4), BAD);
        is("bad", x.pour(-1), BAD);

        SandPicture y = calm();
        y.monk(0, 30, 1);
        y.hours(1);
        y.sheet(0, 1, 8);
        y.mark(0, 0, 1);
        is("the first place", y.reads(0), 0);
        y.mark(0, 0, 0);
        is("done is 30", y.reads(0), 1);
        y.mark(0, 1, 30);
        is("no table", y.reads(0), 6);
        y.mark(0, 6, NONE);
        is("all numbers are not", y.reads(0), 7);
        y.mark(0, 7, NONE);
        is("none", y.reads(0), NONE);
        y.mark(0, 5, 1);
        is("the last table", y.reads(0), 5);
        y.mark(0, 5, NONE);
        is("none", y.reads(0), NONE);
        y.sheet(1, 0, 0);
        is("no places", y.reads(1), NONE);
        is("nothing", y.reads(2), NOTHING);
        is("bad", y.reads(4), BAD);
        is("bad", y.reads(-1), BAD);
    }

    private static void items(SandPicture x, int sheet, int... due) {
        x.lay(4, 2, sheet);
        for (int i = 0; i < due.length; i++) {
            is("item " + i, x.item(4, i), due[i]);
        }
        is("end", x.item(4, due.length), INDEX);
    }

    private static void copying() {
        part("35 copy");
        SandPicture x = new SandPicture();
        x.sheet(0, 0, 5);
        x.sheet(1, 0, 3);
        x.sheet(2, 1, 3);
        for (int i = 0; i < 5; i++) {
            x.mark(0, i, i + 1);
        }
        is("copy", x.copy(0, 1, 1, 0, 3), 3);
        items(x, 1, 2, 3, 4);
        is("forwards", x.copy(0, 0, 0, 1, 4), 4);
        items(x, 0, 1, 1, 2, 3, 4);
        is("backwards", x.copy(0, 1, 0, 0, 4), 4);
        items(x, 0, 1, 2, 3, 4, 4);
        is("none", x.copy(0, 5, 1, 3, 0), 0);
        is("index", x.copy(0, 6, 1, 0, 0), INDEX);
        is("index", x.copy(0, 0, 1, 4, 0), INDEX);
        is("index", x.copy(0, 3, 1, 0, 3), INDEX);
        is("index", x.copy(0, 0, 1, 1, 3), INDEX);
        is("index", x.copy(0, -1, 1, 0, 1), INDEX);
        is("index", x.copy(0, 0, 1, -1, 1), INDEX);
        is("index", x.copy(0, 0, 1, 0, -1), INDEX);
        is("index", x.copy(0, 1, 1, 1, HIGH), INDEX);
        is("index", x.copy(0, HIGH, 1, HIGH, HIGH), INDEX);
        is("index", x.copy(0, LOW, 1, LOW, LOW), INDEX);
        is("kind ahead of index", x.copy(0, 9, 2, 0, 1), KIND);
        is("kind", x.copy(2, 0, 0, 0, 1), KIND);
        is("nothing", x.copy(3, 0, 0, 0, 1), NOTHING);
        is("nothing", x.copy(0, 0, 3, 0, 1), NOTHING);
        is("bad ahead of nothing", x.copy(3, 0, 4, 0, 1), BAD);
        is("bad", x.copy(4, 0, 0, 0, 1), BAD);
        is("bad", x.copy(-1, 0, 0, 0, 1), BAD);
        is("bad", x.copy(0, 0, -1, 0, 1), BAD);
        items(x, 1, 2, 3, 4);
        x.mark(2, 0, NONE);
        is("no number too", x.copy(2, 0, 2, 2, 1), 1);
        items(x, 2, KIND, 0, KIND);
    }

    private static void slots() {
        part("36 lay, 37 ask");
        SandPicture x = new SandPicture();
        x.monk(4, 30, 0);
        x.monk(5, 30, 0);
        x.sheet(1, 0, 2);
        is("monk", x.lay(0, 1, 0), 0);
        is("ask", x.ask(0, 0), 60);
        is("ask", x.ask(0, 2), 60);
        is("ask", x.ask(0, 4), 60);
        is("kind", x.ask(0, 1), KIND);
        x.set(0, 1, 99);
        x.turns(0, 0);
        is("for good", x.ask(0, 4), 60);
        is("sheet", x.lay(0, 2, 1), 1);
        is("no monk", x.ask(0, 0), KIND);
        is("number", x.lay(0, 3, LOW), 2);
        is("no monk", x.ask(0, 0), KIND);
        is("nothing, k any", x.lay(0, 0, 99), 3);
        is("nothing", x.ask(0, 0), NOTHING);
        is("again", x.lay(0, 0, -1), 0);
        int[][] bad = {{5, 0, 0}, {-1, 0, 0}, {0, 4, 0}, {0, -1, 0}, {0, 1, 2}, {0, 1, -1}, {0, 2, 4}, {0, 2, -1}};
        for (int[] b : bad) {
            is("bad", x.lay(b[0], b[1], b[2]), BAD);
        }
        is("missing", x.lay(0, 2, 0), NOTHING);
        is("bad", x.ask(5, 0), BAD);
        is("bad", x.ask(-1, 0), BAD);
        is("bad ahead of nothing", x.ask(0, 6), BAD);
        is("bad ahead of nothing", x.ask(0, -1), BAD);
        part("38 item");
        x.mark(1, 1, 7);
        x.lay(2, 2, 1);
        x.mark(1, 1, 8);
        is("as it was then", x.item(2, 1), 7);
        x.sheet(1, -1, 0);
        is("its own row", x.item(2, 1), 7);
        is("index", x.item(2, 2), INDEX);
        is("index", x.item(2, -1), INDEX);
        is("nothing", x.item(0, 0), NOTHING);
        x.lay(1, 1, 1);
        is("kind", x.item(1, 9), KIND);
        is("bad", x.item(5, 0), BAD);
        is("bad", x.item(-1, 0), BAD);
        part("39 rest");
        x.lay(3, 3, -17);
        is("rest", x.rest(3, 5), -2);
        is("rest", x.rest(3, -5), -2);
        is("no", x.rest(3, 0), NO);
        x.lay(3, 3, LOW);
        is("least by -1", x.rest(3, -1), 0);
        is("kind ahead of no", x.rest(2, 0), KIND);
        is("kind", x.rest(1, 3), KIND);
        is("nothing ahead of no", x.rest(0, 0), NOTHING);
        is("bad", x.rest(5, 1), BAD);
        is("bad", x.rest(-1, 1), BAD);
    }

    private static void told(SandPicture x, int many, int wrongAt) {
        SandPicture same = busy(9);
        for (int i = 0; i < many; i++) {
            if (i % 2 == 0) {
                same.hours(1);
            }
            int v = i % 2 == 0 ? same.grains(1) : same.grains(2) + same.grains(3) + same.grains(4);
            x.tell(i == wrongAt ? v + 1 : v);
        }
    }

    private static void rows() {
        part("40 tell, 41 check");
        SandPicture x = busy(9);
        for (int i = 1; i <= 60; i++) {
            is("tell", x.tell(i), i);
        }
        is("full", x.tell(0), FULL);
        is("60", x.count(5), 60);
        is("no image", x.check(1), NO);
        is("none wait", x.count(5), 0);
        x.tell(1);
        is("bad ahead of no", x.check(0), BAD);
        is("none wait", x.count(5), 0);
        is("bad", x.check(31), BAD);
        x.keep();
        x.hours(50);
        x.seed(3);
        told(x, 60, -1);
        is("as due", x.check(30), 0);
        is("none wait", x.count(5), 0);
        told(x, 2, -1);
        is("as due", x.check(1), 0);
        is("missing", x.check(1), 1);
        told(x, 19, -1);
        is("missing", x.check(10), 20);
        told(x, 21, -1);
        is("one too many", x.check(10), 21);
        told(x, 60, 17);
        is("wrong", x.check(30), 18);
        told(x, 60, 59);
        is("the last is wrong", x.check(30), 60);
        told(x, 60, 0);
        is("the first is wrong", x.check(30), 1);
        told(x, 4, 3);
        is("what is wrong stands ahead of what is too many", x.check(1), 3);
        is("nothing changes", x.count(7), 3);
        is("nothing changes", x.count(1), 57);

        SandPicture late = calm();
        for (int i = 0; i < 99; i++) {
            late.hours(100);
        }
        late.hours(98);
        late.keep();
        late.tell(0);
        late.tell(3000);
        is("fewer", late.check(30), 0);
        late.tell(0);
        late.tell(3000);
        late.tell(0);
        is("one too many", late.check(30), 3);
        late.hours(1);
        late.keep();
        is("none are due", late.check(1), 0);
        late.tell(0);
        is("one too many", late.check(1), 1);
    }

    private static void images() {
        part("42 keep, 43 back");
        SandPicture x = busy(4);
        is("no", x.back(), NO);
        Due.text(x, "fine 5");
        is("keep", x.keep(), 6);
        int[] was = all(x);
        Due.text(x, "fine 6");
        Due.text(x, "pour 99");
        Due.text(x, "back 0");
        x.sheet(0, 0, 3);
        x.lay(0, 3, 44);
        x.tell(1);
        x.feed(1, 2, 3);
        for (int round = 0; round < 2; round++) {
            x.monk(0, 1, 1);
            x.wind(77);
            x.river(0, 5);
            x.need(3, 7);
            x.turns(0, (x.told(0, 0) + 1) % 6);
            x.set(1, 1, 98);
            x.set(2, 2, (x.told(2, 2) + 1) % 6);
            x.hours(20);
            x.sneeze(1);
            is("back", x.back(), 6);
            int[] now = all(x);
            for (int i = 0; i < was.length; i++) {
                is("as it was " + i, now[i], was[i]);
            }
        }
        is("fine of the image", x.fine(), 5);
        is("texts of the image", x.count(4), 1);
        is("no such text", x.textTold(1, 0), BAD);
        is("why", x.why(0), NONE);
        is("why", x.why(2), 0);
        is("sheets stay", x.mark(0, 2, 1), 1);
        is("slots stay", x.rest(0, 45), 44);
        is("numbers that wait stay", x.count(5), 1);
        is("the tape stays", x.count(6), 12);
        x.trim(0);
        is("the next text", Due.text(x, "fine 7"), 1);
        x.back();
        is("fine of the image", x.fine(), 5);
        is("a later image", x.keep(), 6);
        SandPicture none = new SandPicture();
        is("no monks", none.keep(), 0);
        none.deal(3);
        is("no monks", none.back(), 0);
        is("gone", none.told(0, 0), BAD);

        SandPicture law = calm();
        law.monk(0, 10, 0);
        law.keep();
        Due.text(law, "pour 50");
        law.tell(10);
        law.tell(2990);
        is("the hours told are by the texts of the image", law.check(1), 0);
    }

    private static int[] all(SandPicture x) {
        int[] row = new int[96];
        int n = 0;
        for (int i = 0; i < 8; i++) {
            row[n++] = x.grains(i);
            row[n++] = i == 5 || i == 6 ? 0 : x.count(i);
        }
        for (int t = 0; t < 6; t++) {
            for (int w = 0; w < 4; w++) {
                row[n++] = x.table(t, w);
            }
        }
        for (int m = 0; m < 10; m++) {
            for (int w = 0; w < 4; w++) {
                row[n++] = x.told(m, w);
            }
        }
        return row;
    }

    private static void counts() {
        part("44 count");
        SandPicture x = new SandPicture();
        x.deal(3);
        x.wind(100);
        x.hours(30);
        x.tell(4);
        Due.text(x, "fine 1");
        x.feed(0, 0, 0);
        int faulty = 0;
        for (int t = 0; t < 6; t++) {
            faulty += x.table(t, 2) > 0 ? 1 : 0;
        }
        int[] due = {3, 30, 100, faulty, 1, 1, 12};
        for (int i = 0; i < due.length; i++) {
            is("count " + i, x.count(i), due[i]);
        }
        x.seed(123);
        is("z", x.count(7), 123);
        is("bad", x.count(8), BAD);
        is("bad", x.count(-1), BAD);
    }
}
