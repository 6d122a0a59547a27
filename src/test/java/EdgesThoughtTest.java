/** Edges of promises 17 to 25, and of head 3 of the terms: what is only thought, and fine. */
public final class EdgesThoughtTest extends Cases {
    public static void main(String[] args) throws ReflectiveOperationException {
        run(EdgesThoughtTest.class);
    }

    // ---- head 3: only thought, without the bound of THE HOUR

    static void t3_nothingChanges() {
        onlyTells("behind", x -> x.behind(100, 0));
        onlyTells("lacks", x -> x.lacks(100));
        onlyTells("dry", x -> x.dry(0));
        onlyTells("goes", x -> x.goes(1, 60, 0));
        onlyTells("blamed", x -> x.blamed(60));
        onlyTells("never", x -> x.never());
        onlyTells("slower", x -> x.slower(1, 20));
        onlyTells("paced", x -> x.paced(0, 1, 0));
    }

    static void t3_theImageStaysBehindAThought() {
        SandPicture x = calmWith(10, 0);
        x.keep();
        x.tell(10);
        x.tell(2990);
        x.behind(50, 0);
        x.goes(0, 9, 1);
        is("its hours", x.check(1), 0);
        x.behind(50, 0);
        is("back", x.back(), 1);
        is("its hour", x.count(1), 0);
        is("its table", x.told(0, 2), 0);
    }

    static void t3_withoutTheBoundOfTheHour() {
        SandPicture x = calmWith(10, 0);
        passTo(x, 9999);
        x.sneeze(0);
        int wiped = x.grains(6);
        x.need(0, 10);
        is("behind", x.behind(100, 0), wiped + 100);
        x.need(0, 20);
        is("lacks", x.lacks(1), 62);
        x.need(0, 10);
        is("goes", x.goes(0, 60, 1), wiped + 60);
        x.need(0, 999);
        x.river(0, 30);
        is("dry", x.dry(0), 3);
        x.sheet(0, 0, 1);
        x.mark(0, 0, 17);
        is("paced", x.paced(0, 0, 0), 17);
        x.turns(0, GUEST);
        x.monk(MONK, 1, 1);
        is("blamed", x.blamed(3), 0);
        for (int t = 0; t < 6; t++) {
            x.monk(MONK, 1, t);
            x.need(t, 2);
        }
        is("never", x.never(), 2);
        is("slower", x.slower(0, 2), NONE);
        is("the hour", x.count(1), 9999);
    }

    // ---- promise 17: behind

    static void p17_n() {
        range("n", 0, 100, (x, v) -> x.behind(v, 0));
    }

    static void p17_what() {
        range("what", 0, 3, (x, v) -> x.behind(1, v));
    }

    static void p17_behindNoHoursAsNow() {
        SandPicture x = calm();
        x.monk(GUEST, 10, 0);
        x.need(0, 18);
        x.hours(3);
        x.need(0, 1);
        is("wiped", x.behind(0, 0), 1);
        is("faults", x.behind(0, 1), 1);
        x.sneeze(0);
        is("spilt", x.behind(0, 2), 9);
        is("ends", x.behind(0, 3), 0);
    }

    static void p17_whatWasIsCountedToo() {
        SandPicture x = calmWith(10, 0, 1, 2, 3, 4, 5);
        for (int t = 0; t < 6; t++) {
            x.need(t, 10);
        }
        x.hours(2);
        is("wiped of all, together", x.behind(1, 0), 18);
        is("ends", x.behind(1, 3), 3);
        is("wiped behind 100", x.behind(100, 0), 612);
        is("ends behind 100", x.behind(100, 3), 102);
    }

    static void p17_asTheHoursThemselves() {
        for (int n : new int[] {1, 2, 99, 100}) {
            SandPicture real = Twins.rich();
            real.hours(n);
            int[] due = {real.grains(6), real.grains(5), real.grains(0), real.grains(7)};
            for (int what = 0; what < 4; what++) {
                is("behind " + n + " what " + what, Twins.rich().behind(n, what), due[what]);
            }
        }
    }

    // ---- promise 18: lacks

    static void p18_n() {
        range("n", 0, 100, (x, v) -> x.lacks(v));
    }

    static void p18_lessThanHalfCut() {
        int[] need = {1, 2, 3, 20, 21, 22, 23};
        int[] lacks = {0, 0, 0, 0, 0, 1, 1};
        for (int i = 0; i < need.length; i++) {
            SandPicture x = calmWith(10, 0);
            x.hours(1);
            x.need(0, need[i]);
            is("10 done, need " + need[i], x.lacks(0) & 1, lacks[i]);
        }
        SandPicture none = calm();
        for (int k = 1; k <= 3; k++) {
            none.need(0, k);
            is("0 done, need " + k, none.lacks(0) & 1, k >= 2 ? 1 : 0);
        }
    }

    static void p18_theEmptySetAndAll() {
        SandPicture x = calm();
        is("all", x.lacks(0), 63);
        is("all behind 100", x.lacks(100), 63);
        for (int t = 0; t < 6; t++) {
            x.need(t, 1);
        }
        is("none", x.lacks(0), 0);
    }

    static void p18_eachTableItsBit() {
        for (int t = 0; t < 6; t++) {
            SandPicture x = calm();
            for (int other = 0; other < 6; other++) {
                x.need(other, other == t ? 2 : 1);
            }
            is("table " + t, x.lacks(0), 1 << t);
        }
    }

    static void p18_aTableThatWasWipedLacks() {
        SandPicture x = calmWith(10, 0);
        x.need(0, 20);
        is("half", x.lacks(1) & 1, 0);
        is("wiped", x.lacks(2) & 1, 1);
    }

    // ---- promise 19: dry

    static void p19_river() {
        range("river", 0, 2, (x, v) -> x.dry(v));
    }

    static void p19_nowIsBehind0() {
        for (int r = 0; r < 3; r++) {
            SandPicture x = calm();
            x.river(r, 0);
            is("river " + r, x.dry(r), 0);
            is("another", x.dry((r + 1) % 3), NONE);
        }
    }

    static void p19_behind300AndNot301() {
        SandPicture x = calmWith(1, 0);
        x.need(0, 999);
        for (int sand = 298; sand <= 300; sand++) {
            x.river(0, sand);
            is("sand " + sand, x.dry(0), sand);
        }
        x.river(0, 301);
        is("not by then", x.dry(0), NONE);
    }

    static void p19_theFirstOfSeveral() {
        SandPicture x = calmWith(10, 0);
        x.need(0, 40);
        x.river(0, 20);
        is("dry behind 2", x.dry(0), 2);
        x.river(0, 40);
        is("it comes back in the hour in which it is all poured", x.dry(0), NONE);
        x.need(0, 41);
        is("a grain lacks", x.dry(0), 4);
    }

    static void p19_noneIsNoRefusalOfOthers() {
        onlyTells("dry", x -> x.dry(2));
    }

    // ---- promise 20: goes

    static void p20_monk() {
        range("monk", 0, 5, (x, v) -> x.goes(v, 1, 0));
    }

    static void p20_n() {
        range("n", 1, 60, (x, v) -> x.goes(0, v, 0));
    }

    static void p20_what() {
        range("what", 0, 1, (x, v) -> x.goes(0, 1, v));
    }

    static void p20_ofSeveralTheLeast() {
        SandPicture x = calmWith(10, 5);
        is("none is wiped at any", x.goes(0, 1, 0), 0);
        is("none", x.goes(0, 1, 1), 0);
        x.need(2, 10);
        x.need(4, 10);
        is("2 and 4", x.goes(0, 3, 0), 2);
        is("three", x.goes(0, 3, 1), 3);
        x.need(4, 9);
        is("still as many", x.goes(0, 3, 0), 2);
    }

    static void p20_theLastTable() {
        SandPicture x = calmWith(10, 0);
        x.need(5, 10);
        is("5", x.goes(0, 60, 0), 5);
        is("sixty", x.goes(0, 60, 1), 60);
    }

    static void p20_whatWasWipedCountsToo() {
        SandPicture x = calmWith(10, 0);
        x.need(0, 10);
        x.hours(4);
        is("where it is", x.goes(0, 1, 0), 0);
        is("wiped of all", x.goes(0, 1, 1), 5);
    }

    static void p20_theOthersGoOnWhereTheyAre() {
        SandPicture x = calmWith(10, 0, 1);
        x.need(1, 20);
        is("both at 1", x.goes(0, 5, 0), 1);
        is("each hour", x.goes(0, 5, 1), 5);
    }

    // ---- promise 21: blamed

    static void p21_n() {
        range("n", 1, 60, (x, v) -> x.blamed(v));
    }

    static void p21_noMonksNone() {
        SandPicture one = new SandPicture();
        is("none", one.blamed(1), NONE);
        is("none", one.blamed(60), NONE);
        alike("none", one, new SandPicture());
    }

    static void p21_badAheadOfNone() {
        is("0", new SandPicture().blamed(0), BAD);
        is("61", new SandPicture().blamed(61), BAD);
    }

    static void p21_theOnlyMonk() {
        is("0", calmWith(10, 0).blamed(1), 0);
    }

    static void p21_ofSeveralTheLeast() {
        SandPicture x = calmWith(10, 0, 1, 2);
        is("no faults of any", x.blamed(9), 0);
        x.turns(1, GUEST);
        x.turns(2, GUEST);
        is("1 and 2 alike", x.blamed(9), 1);
    }

    static void p21_theLastMonk() {
        SandPicture x = calmWith(10, 0, 1, 2, 3, 4, 5, 0, 1, 2, 3);
        x.turns(9, PROUD);
        is("9", x.blamed(1), 9);
    }

    /** A MONK of PACE 99 pours nothing by this text, but draws: so what is thought can be lived through. */
    private static SandPicture lived(int seed) {
        SandPicture x = new SandPicture();
        x.seed(seed);
        x.deal(7);
        x.wind(50);
        for (int t = 0; t < 6; t++) {
            x.need(t, 15 + 8 * t);
        }
        is("text", Due.text(x, "pour (p<99)*(p+x)"), 0);
        x.hours(5);
        return x;
    }

    static void p21_itPoursNothingAndDrawsAsEver() {
        for (int seed = 0; seed < 40; seed++) {
            int best = -1;
            int least = 0;
            for (int m = 0; m < 7; m++) {
                SandPicture x = lived(seed);
                x.turns(m, MONK);
                x.set(m, 1, 99);
                x.hours(1 + seed);
                int all = x.grains(5) + x.grains(0);
                if (best < 0 || all < least) {
                    best = m;
                    least = all;
                }
            }
            is("seed " + seed, lived(seed).blamed(1 + seed), best);
        }
    }

    // ---- promise 22: never

    private static SandPicture allOf(int need) {
        SandPicture x = calmWith(1, 0, 1, 2, 3, 4, 5);
        for (int t = 0; t < 6; t++) {
            x.need(t, need);
        }
        return x;
    }

    static void p22_behind1To300() {
        is("1", allOf(1).never(), 1);
        is("2", allOf(2).never(), 2);
        is("299", allOf(299).never(), 299);
        is("300", allOf(300).never(), 300);
        is("301", allOf(301).never(), NONE);
    }

    static void p22_noMonksNone() {
        is("none", new SandPicture().never(), NONE);
    }

    static void p22_moreThanNow() {
        SandPicture x = allOf(3);
        x.hours(6);
        is("two ends", x.grains(7), 2);
        is("the next", x.never(), 3);
        x.hours(1);
        is("the next", x.never(), 2);
    }

    // ---- promise 23: slower

    static void p23_monk() {
        range("monk", 0, 5, (x, v) -> x.slower(v, 1));
    }

    static void p23_n() {
        range("n", 1, 20, (x, v) -> x.slower(0, v));
    }

    static void p23_theGreatestPace() {
        SandPicture x = allOf(1);
        x.need(0, 100);
        is("no pace is enough", x.slower(0, 1), 99);
        x.need(0, 99);
        is("99 is enough", x.slower(0, 1), 98);
    }

    static void p23_theLeastPace() {
        SandPicture x = allOf(1);
        x.need(0, 2);
        is("1 is not enough", x.slower(0, 1), 1);
        is("1 is enough in two", x.slower(0, 2), NONE);
    }

    static void p23_none() {
        is("each pace ends it", allOf(1).slower(0, 1), NONE);
        SandPicture one = allOf(1);
        one.slower(0, 1);
        alike("none changes nothing", one, allOf(1));
    }

    static void p23_asNowIsNot0() {
        SandPicture x = allOf(1);
        x.hours(2);
        is("two ends", x.grains(7), 2);
        x.need(0, 50);
        is("49", x.slower(0, 1), 49);
    }

    /** TABLE 0 is done each hour by PACE 10, each second one by 5 to 9, each fifth one by 2; the others in the fifth. */
    private static SandPicture inTheFifthHour() {
        SandPicture x = allOf(5);
        x.need(0, 10);
        return x;
    }

    private static int endsWith(int pace) {
        SandPicture x = inTheFifthHour();
        x.set(0, 1, pace);
        x.hours(5);
        return x.grains(7);
    }

    static void p23_theGreatestThoughALesserOneEndsIt() {
        is("1", endsWith(1), 0);
        is("2", endsWith(2), 1);
        is("3", endsWith(3), 0);
        is("9", endsWith(9), 0);
        is("10", endsWith(10), 1);
        is("the greatest", inTheFifthHour().slower(0, 5), 9);
    }

    static void p23_behind20Hours() {
        SandPicture x = allOf(20);
        x.need(0, 980);
        is("98 and 99 are done in each tenth, 97 in each eleventh", x.slower(0, 20), 97);
        is("the others are not done in the nineteenth", x.slower(0, 19), 99);
    }

    // ---- promise 24: paced

    static void p24_sheet() {
        range("sheet", 0, 3, (x, v) -> x.paced(v, 0, 0));
    }

    static void p24_monk() {
        range("monk", 0, 5, (x, v) -> x.paced(0, v, 0));
    }

    static void p24_what() {
        range("what", 0, 1, (x, v) -> x.paced(0, 0, v));
    }

    static void p24_nothing() {
        refused("missing", NOTHING, x -> x.paced(3, 0, 0));
    }

    static void p24_badAheadOfNothing() {
        refused("monk", BAD, x -> x.paced(3, 6, 0));
        refused("what", BAD, x -> x.paced(3, 0, 2));
    }

    private static SandPicture pacedTo(int mark) {
        SandPicture x = calmWith(99, 0);
        x.sheet(0, 1, 1);
        x.mark(0, 0, mark);
        return x;
    }

    static void p24_pace1To40() {
        is("below 1", pacedTo(-99999).paced(0, 0, 0), 1);
        is("0", pacedTo(0).paced(0, 0, 0), 1);
        is("0 differs by 1", pacedTo(0).paced(0, 0, 1), 1);
        is("1", pacedTo(1).paced(0, 0, 0), 1);
        is("40", pacedTo(40).paced(0, 0, 0), 40);
        is("40 differs by 0", pacedTo(40).paced(0, 0, 1), 0);
        is("41", pacedTo(41).paced(0, 0, 0), 40);
        is("41 differs by 1", pacedTo(41).paced(0, 0, 1), 1);
        is("far above", pacedTo(99999).paced(0, 0, 1), 99959);
        is("far below", pacedTo(-99999).paced(0, 0, 1), 100000);
    }

    static void p24_ofSeveralTheLeast() {
        SandPicture x = pacedTo(7);
        x.turns(0, SLOW);
        is("14 and 15", x.paced(0, 0, 0), 14);
        x.mark(0, 0, 0);
        x.turns(0, MONK);
        x.need(0, 30);
        is("30 to 40 are wiped", x.paced(0, 0, 0), 30);
        x.river(0, 0);
        is("all alike", x.paced(0, 0, 0), 1);
        is("all alike", x.paced(0, 0, 1), 0);
    }

    static void p24_noPlaces() {
        SandPicture x = calmWith(9, 0);
        x.sheet(0, 0, 0);
        is("the least", x.paced(0, 0, 0), 1);
        is("nothing differs", x.paced(0, 0, 1), 0);
    }

    static void p24_noNumberDoesNotCount() {
        SandPicture x = pacedTo(NONE);
        is("the least", x.paced(0, 0, 0), 1);
        is("nothing differs", x.paced(0, 0, 1), 0);
    }

    static void p24_tablesBeyondTheSheetDoNotCount() {
        SandPicture x = calmWith(9, 0, 1);
        x.sheet(0, 0, 1);
        x.mark(0, 0, 9);
        is("table 1 is not compared", x.paced(0, 0, 1), 0);
    }

    static void p24_placesBeyondAllTablesDifferFrom0() {
        SandPicture x = calmWith(9, 5);
        x.sheet(0, 0, 24);
        x.mark(0, 5, 9);
        is("zeros do not differ", x.paced(0, 0, 1), 0);
        x.mark(0, 6, 4);
        x.mark(0, 23, -6);
        is("signs left out", x.paced(0, 0, 1), 10);
        is("the pace", x.paced(0, 0, 0), 9);
    }

    static void p24_theOtherTablesCountToo() {
        SandPicture x = calmWith(9, 0, 1);
        x.sheet(0, 0, 2);
        x.mark(0, 0, 5);
        is("9 of table 1", x.paced(0, 0, 1), 9);
        is("the pace", x.paced(0, 0, 0), 5);
    }

    // ---- promise 25: fine

    static void p25_withoutATextSpilt() {
        SandPicture x = calmWith(10, 0);
        x.hours(2);
        x.sneeze(0);
        is("spilt", x.fine(), 20);
        Due.text(x, "pour 1");
        Due.text(x, "back 1");
        is("other keys do not count", x.fine(), 20);
    }

    static void p25_theHourUpTo9999() {
        SandPicture x = calm();
        Due.text(x, "fine h");
        is("0", x.fine(), 0);
        passTo(x, 9999);
        is("9999", x.fine(), 9999);
        x.hours(100);
        is("no more", x.fine(), 9999);
    }

    static void p25_notHeld() {
        is("below 0", fineBy("0-9999*9999"), -99980001);
        is("the least int", fineBy("(0-2048*2048)*512"), LOW);
        is("the greatest int", fineBy("(0-2048*2048)*512-1"), HIGH);
    }

    static void p25_onlyTells() {
        onlyTells("fine", x -> x.fine());
    }
}
