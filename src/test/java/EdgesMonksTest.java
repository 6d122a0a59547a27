/** Edges of promises 1 to 13, and of head 1 of the terms: monks, their kinds, tables, rivers, wind, lots. */
public final class EdgesMonksTest extends Cases {
    public static void main(String[] args) throws ReflectiveOperationException {
        run(EdgesMonksTest.class);
    }

    // ---- promise 1: a new object

    static void p01_noMonks() {
        SandPicture x = new SandPicture();
        is("count", x.count(0), 0);
        is("told", x.told(0, 0), BAD);
        is("does", x.does(0, 0, 0), BAD);
        is("as", x.as(0, 0), BAD);
        is("turns", x.turns(0, 0), BAD);
        is("set", x.set(0, 1, 1), BAD);
        is("goes", x.goes(0, 1, 0), BAD);
        is("slower", x.slower(0, 1), BAD);
        is("lay", x.lay(0, 1, 0), BAD);
    }

    static void p01_objectsDoNotShareAnything() {
        SandPicture one = Twins.rich();
        alike("a new one is as new", new SandPicture(), new SandPicture());
        SandPicture other = new SandPicture();
        one.hours(9);
        one.keep();
        is("no image", other.back(), NO);
        is("no texts", other.count(4), 0);
        is("z", other.count(7), 1);
        is("no sheet", other.reads(0), NOTHING);
        is("no slot", other.rest(3, 2), NOTHING);
    }

    // ---- head 1: as all is at first

    static void t1_tablesAtFirst() {
        SandPicture x = new SandPicture();
        for (int t = 0; t < 6; t++) {
            is("need", x.table(t, 0), 100);
            is("done", x.table(t, 1), 0);
            is("faults", x.table(t, 2), 0);
            is("wiped", x.table(t, 3), 0);
        }
    }

    static void t1_riversAtFirst() {
        SandPicture x = new SandPicture();
        for (int r = 0; r < 3; r++) {
            is("sand", x.grains(2 + r), 1000);
        }
    }

    static void t1_windSpiltHourEndsAtFirst() {
        SandPicture x = new SandPicture();
        is("wind", x.count(2), 10);
        is("spilt", x.grains(0), 0);
        is("the hour", x.count(1), 0);
        is("ends", x.grains(7), 0);
    }

    static void t1_tableIsPouredOfTheRiverOfItsRestBy3() {
        for (int t = 0; t < 6; t++) {
            SandPicture x = calmWith(7, t);
            x.hours(1);
            for (int r = 0; r < 3; r++) {
                is("table " + t + ", river " + r, x.grains(2 + r), r == t % 3 ? 993 : 1000);
            }
        }
    }

    // ---- head 1: POURS

    /** A picture with one MONK of each KIND, the KIND its number, at TABLES that are empty. */
    private static SandPicture oneOfEach(int pace) {
        SandPicture x = calm();
        for (int k = 0; k < 6; k++) {
            x.monk(k, pace, k);
        }
        return x;
    }

    private static int pours(int kind, int pace, int by) {
        return oneOfEach(pace).does(kind, 0, by);
    }

    private static int poursByText(int kind, String e, int by) {
        SandPicture x = oneOfEach(50);
        is("[" + e + "]", Due.text(x, "pour " + e), 0);
        return x.does(kind, 0, by);
    }

    static void t1_withoutATextPace() {
        is("least", pours(MONK, 1, 9), 1);
        is("most", pours(MONK, 99, 0), 99);
    }

    static void t1_whatPourGivesIsHeldWithin0() {
        is("0", poursByText(MONK, "0", 0), 0);
        is("-1", poursByText(MONK, "0-1", 0), 0);
        is("the least int", poursByText(MONK, "(0-2048*2048)*512", 0), 0);
        is("1", poursByText(MONK, "1", 0), 1);
    }

    static void t1_whatPourGivesIsHeldWithin999() {
        is("998", poursByText(MONK, "998", 0), 998);
        is("999", poursByText(MONK, "999", 0), 999);
        is("1000", poursByText(MONK, "1000", 0), 999);
        is("the greatest int", poursByText(MONK, "(0-2048*2048)*512-1", 0), 999);
    }

    static void t1_itIsHeldAheadOfWhatTheKindDoes() {
        is("novice of -5", poursByText(NOVICE, "0-5", 7), 7);
        is("proud of -5", poursByText(PROUD, "0-5", 7), 14);
        is("slow of -3", poursByText(SLOW, "0-3", 0), 0);
        is("slow of 5000", poursByText(SLOW, "5000", 0), 499);
        is("old of 5000", poursByText(OLD, "5000", 9), 496);
        is("guest of -5", poursByText(GUEST, "0-5", 0), 0);
    }

    static void t1_slowHalfIsCut() {
        is("1", pours(SLOW, 1, 0), 0);
        is("2", pours(SLOW, 2, 0), 1);
        is("3", pours(SLOW, 3, 0), 1);
        is("99", pours(SLOW, 99, 9), 49);
    }

    static void t1_oldLessXBy3() {
        int[] due = {49, 49, 49, 48, 48, 48, 47, 47, 47, 46};
        for (int by = 0; by < 10; by++) {
            is("by " + by, pours(OLD, 99, by), due[by]);
        }
    }

    static void t1_old0AtLeast() {
        is("1 less 3", pours(OLD, 2, 9), 0);
        is("2 less 3", pours(OLD, 4, 9), 0);
        is("3 less 3", pours(OLD, 6, 9), 0);
        is("4 less 3", pours(OLD, 8, 9), 1);
        is("0 less 0", pours(OLD, 1, 0), 0);
    }

    static void t1_noviceAndXIsNotHeldAgain() {
        is("0", pours(NOVICE, 30, 0), 30);
        is("9", pours(NOVICE, 99, 9), 108);
        is("above 999", poursByText(NOVICE, "999", 9), 1008);
    }

    static void t1_proudTwiceAsNovice() {
        is("least", pours(PROUD, 1, 0), 2);
        is("x is doubled too", pours(PROUD, 1, 9), 20);
        is("most", poursByText(PROUD, "999", 9), 2016);
    }

    static void t1_guest9AtMost() {
        is("8", pours(GUEST, 8, 0), 8);
        is("9", pours(GUEST, 9, 0), 9);
        is("10", pours(GUEST, 10, 0), 9);
        is("99", pours(GUEST, 99, 9), 9);
        is("999", poursByText(GUEST, "999", 0), 9);
    }

    // ---- head 1: SPILLS, ADDS, WORTH

    private static void doesOf(int kind, int what, int[] of, int[] due) {
        SandPicture x = oneOfEach(50);
        for (int i = 0; i < of.length; i++) {
            is("kind " + kind + " of " + of[i], x.does(kind, what, of[i]), due[i]);
        }
    }

    static void t1_noviceSpillsATenthCut() {
        doesOf(NOVICE, 1, new int[] {0, 1, 9, 10, 19, 20, 999}, new int[] {0, 0, 0, 1, 1, 2, 99});
    }

    static void t1_proudSpillsOneMoreIfAbove0() {
        doesOf(PROUD, 1, new int[] {0, 1, 9, 10, 999}, new int[] {0, 1, 1, 2, 100});
    }

    static void t1_slowOldGuestSpillAsMonk() {
        for (int kind : new int[] {MONK, SLOW, OLD, GUEST}) {
            doesOf(kind, 1, new int[] {0, 10, 999}, new int[] {0, 0, 0});
        }
    }

    static void t1_noviceAdds1IfItSpillsAny() {
        doesOf(NOVICE, 2, new int[] {0, 9, 10, 999}, new int[] {0, 0, 1, 1});
    }

    static void t1_proudAddsByWhatItSpillsItself() {
        doesOf(PROUD, 2, new int[] {0, 1, 9, 999}, new int[] {0, 1, 1, 1});
    }

    static void t1_guestAdds1EvenOf0() {
        doesOf(GUEST, 2, new int[] {0, 1, 999}, new int[] {1, 1, 1});
    }

    static void t1_slowAndOldAddAsMonk() {
        for (int kind : new int[] {MONK, SLOW, OLD}) {
            doesOf(kind, 2, new int[] {0, 10, 999}, new int[] {0, 0, 0});
        }
    }

    static void t1_worthAtTheLeastAndTheGreatestPace() {
        int[] least = {1, 7, 98, 14, 89, 4};
        int[] greatest = {99, 105, 0, 210, -9, 4};
        SandPicture low = oneOfEach(1);
        SandPicture high = oneOfEach(99);
        for (int k = 0; k < 6; k++) {
            is("pace 1, kind " + k, low.told(k, 3), least[k]);
            is("pace 99, kind " + k, high.told(k, 3), greatest[k]);
        }
    }

    // ---- promises 2 to 7

    static void p02_kind() {
        range("kind", 0, 5, (x, v) -> x.monk(v, 5, 0));
    }

    static void p02_pace() {
        range("pace", 1, 99, (x, v) -> x.monk(0, v, 0));
    }

    static void p02_at() {
        range("at", 0, 5, (x, v) -> x.monk(0, 5, v));
    }

    private static void fill(SandPicture x) {
        for (int i = 0; i < 10; i++) {
            x.monk(MONK, 5, 0);
        }
    }

    static void p02_fullAtTheEleventh() {
        SandPicture x = new SandPicture();
        for (int i = 0; i < 10; i++) {
            is("its number", x.monk(i % 6, 1 + i, i % 6), i);
        }
        is("the eleventh", x.monk(0, 5, 0), FULL);
        is("ten", x.count(0), 10);
        is("the tenth", x.told(9, 1), 10);
        is("no eleventh", x.told(10, 1), BAD);
    }

    static void p02_fullChangesNothing() {
        SandPicture one = Twins.rich();
        SandPicture other = Twins.rich();
        fill(one);
        fill(other);
        is("full", one.monk(0, 5, 0), FULL);
        alike("full", one, other);
    }

    static void p02_badAheadOfFull() {
        SandPicture x = new SandPicture();
        fill(x);
        is("kind", x.monk(6, 5, 0), BAD);
        is("pace", x.monk(0, 0, 0), BAD);
        is("at", x.monk(0, 5, 6), BAD);
    }

    static void p02_roomAgainBehindBack() {
        SandPicture x = new SandPicture();
        x.deal(9);
        x.keep();
        is("the tenth", x.monk(0, 5, 0), 9);
        is("full", x.monk(0, 5, 0), FULL);
        x.back();
        is("the tenth again", x.monk(0, 6, 0), 9);
        is("as told then", x.told(9, 1), 6);
    }

    static void p03_monk() {
        range("monk", 0, 5, (x, v) -> x.told(v, 0));
    }

    static void p03_what() {
        range("what", 0, 3, (x, v) -> x.told(0, v));
    }

    static void p03_onlyTells() {
        onlyTells("told", x -> x.told(3, 3));
    }

    static void p04_monk() {
        range("monk", 0, 5, (x, v) -> x.does(v, 0, 0));
    }

    static void p04_what() {
        range("what", 0, 2, (x, v) -> x.does(0, v, 0));
    }

    static void p04_xOfPours() {
        range("x", 0, 9, (x, v) -> x.does(0, 0, v));
    }

    static void p04_nOfSpills() {
        range("n", 0, 999, (x, v) -> x.does(2, 1, v));
    }

    static void p04_nOfAdds() {
        range("n", 0, 999, (x, v) -> x.does(2, 2, v));
    }

    static void p04_poursIsNotHeldToSandOrNeed() {
        SandPicture x = calmWith(50, 0);
        x.need(0, 1);
        x.river(0, 0);
        is("what it would pour", x.does(0, 0, 0), 50);
    }

    static void p04_poursWhereItIs() {
        SandPicture x = calmWith(10, 0);
        x.monk(MONK, 1, 5);
        x.hours(1);
        Due.text(x, "pour d");
        is("done there", x.does(0, 0, 0), 10);
        x.set(0, 2, 5);
        is("done at the other", x.does(0, 0, 0), 1);
        x.set(0, 2, 3);
        is("nothing is done there", x.does(0, 0, 0), 0);
    }

    static void p04_onlyTells() {
        for (int what = 0; what < 3; what++) {
            int asked = what;
            onlyTells("does " + what, x -> x.does(4, asked, 9));
        }
    }

    static void p05_monk() {
        range("monk", 0, 5, (x, v) -> x.as(v, 0));
    }

    static void p05_kind() {
        range("kind", 0, 5, (x, v) -> x.as(0, v));
    }

    static void p05_kindItIsNotNorUnder() {
        String[] of = {"0", "01", "02", "013", "024", "05"};
        SandPicture x = oneOfEach(1);
        for (int m = 0; m < 6; m++) {
            x.set(m, 1, 40 + m);
            for (int k = 0; k < 6; k++) {
                is("monk " + m + " as " + k, x.as(m, k), of[m].indexOf('0' + k) >= 0 ? 40 + m : KIND);
            }
        }
    }

    static void p05_kindChangesNothing() {
        refused("a monk as slow", KIND, x -> x.as(0, 1));
    }

    static void p05_badAheadOfKind() {
        SandPicture x = oneOfEach(1);
        is("no such monk", x.as(6, 4), BAD);
        is("no such kind", x.as(5, 6), BAD);
    }

    static void p06_monk() {
        range("monk", 0, 5, (x, v) -> x.turns(v, 0));
    }

    static void p06_kind() {
        range("kind", 0, 5, (x, v) -> x.turns(0, v));
    }

    static void p06_toTheKindThatItIs() {
        onlyTells("turns", x -> x.turns(3, 3));
    }

    static void p06_fromEachToEach() {
        for (int from = 0; from < 6; from++) {
            for (int to = 0; to < 6; to++) {
                SandPicture x = oneOfEach(20);
                is("what it was", x.turns(from, to), from);
                is("what it is", x.told(from, 0), to);
                is("its worth", x.told(from, 3), oneOfEach(20).told(to, 3));
                is("what it pours", x.does(from, 0, 7), oneOfEach(20).does(to, 0, 7));
                is("its pace stays", x.told(from, 1), 20);
                is("its table stays", x.told(from, 2), from);
            }
        }
    }

    static void p07_monk() {
        range("monk", 0, 5, (x, v) -> x.set(v, 1, 5));
    }

    static void p07_what() {
        range("what", 1, 2, (x, v) -> x.set(0, v, 5));
    }

    static void p07_pace() {
        range("pace", 1, 99, (x, v) -> x.set(0, 1, v));
    }

    static void p07_at() {
        range("at", 0, 5, (x, v) -> x.set(0, 2, v));
    }

    static void p07_whatItWas() {
        SandPicture x = calmWith(1, 5);
        is("pace", x.set(0, 1, 99), 1);
        is("pace", x.set(0, 1, 1), 99);
        is("at", x.set(0, 2, 0), 5);
        is("at", x.set(0, 2, 5), 0);
        is("pace is not at", x.told(0, 1), 1);
    }

    // ---- promises 8 to 13

    static void p08_table() {
        range("table", 0, 5, (x, v) -> x.table(v, 0));
    }

    static void p08_what() {
        range("what", 0, 3, (x, v) -> x.table(0, v));
    }

    static void p08_onlyTells() {
        onlyTells("table", x -> x.table(5, 1));
    }

    static void p09_table() {
        range("table", 0, 5, (x, v) -> x.need(v, 5));
    }

    static void p09_need() {
        range("v", 1, 999, (x, v) -> x.need(0, v));
    }

    static void p09_leastAndMost() {
        SandPicture x = calm();
        is("was", x.need(5, 1), 100);
        is("was", x.need(5, 999), 1);
        is("is", x.table(5, 0), 999);
        is("the others stay", x.table(4, 0), 100);
    }

    static void p09_needBelowDoneIsWipedInTheNextHourOnly() {
        SandPicture x = calmWith(10, 0);
        x.hours(1);
        is("was", x.need(0, 10), 100);
        is("not yet", x.table(0, 3), 0);
        is("done stays", x.table(0, 1), 10);
        is("in the next hour", x.hours(1), 1);
    }

    static void p10_river() {
        range("river", 0, 2, (x, v) -> x.river(v, 5));
    }

    static void p10_sand() {
        range("v", 0, 99999, (x, v) -> x.river(0, v));
    }

    static void p10_leastAndMost() {
        SandPicture x = calm();
        is("was", x.river(2, 0), 1000);
        is("was", x.river(2, 99999), 0);
        is("is", x.grains(4), 99999);
        is("the others stay", x.grains(2) + x.grains(3), 2000);
    }

    static void p11_wind() {
        range("v", 0, 100, (x, v) -> x.wind(v));
    }

    static void p11_leastAndMost() {
        SandPicture x = new SandPicture();
        is("was", x.wind(0), 10);
        is("was", x.wind(100), 0);
        is("is", x.count(2), 100);
    }

    static void p12_n() {
        range("n", 1, 10, (x, v) -> x.deal(v));
    }

    static void p12_asManyAsThereIsRoomFor() {
        for (int had = 0; had <= 10; had++) {
            for (int n = 1; n <= 10; n++) {
                SandPicture x = new SandPicture();
                for (int i = 0; i < had; i++) {
                    x.monk(MONK, 5, 0);
                }
                int come = Math.min(n, 10 - had);
                is("how many came", x.deal(n), come);
                is("how many there are", x.count(0), had + come);
                int[] z = {1};
                for (int i = 0; i < 3 * come; i++) {
                    drawn(z);
                }
                is("no draws for others", x.count(7), z[0]);
            }
        }
    }

    static void p12_noRoomChangesNothing() {
        SandPicture one = Twins.rich();
        SandPicture other = Twins.rich();
        fill(one);
        fill(other);
        is("none came", one.deal(10), 0);
        alike("none came", one, other);
    }

    static void p12_badAheadOfNoRoom() {
        SandPicture x = new SandPicture();
        fill(x);
        is("0", x.deal(0), BAD);
        is("11", x.deal(11), BAD);
    }

    static void p12_theLeastAndTheGreatestAreDrawn() {
        boolean[] kinds = new boolean[6];
        boolean[] tables = new boolean[6];
        boolean[] paces = new boolean[22];
        for (int seed = 0; seed < 200; seed++) {
            SandPicture x = new SandPicture();
            x.seed(seed * 7919);
            x.deal(10);
            int[] z = {seed * 7919};
            for (int m = 0; m < 10; m++) {
                is("kind", x.told(m, 0), drawn(z) % 6);
                is("pace", x.told(m, 1), 1 + drawn(z) % 20);
                is("at", x.told(m, 2), drawn(z) % 6);
                kinds[x.told(m, 0)] = true;
                paces[x.told(m, 1)] = true;
                tables[x.told(m, 2)] = true;
            }
        }
        for (int k = 0; k < 6; k++) {
            is("kind " + k, kinds[k] ? 1 : 0, 1);
            is("table " + k, tables[k] ? 1 : 0, 1);
        }
        for (int p = 0; p < 22; p++) {
            is("pace " + p, paces[p] ? 1 : 0, p >= 1 && p <= 20 ? 1 : 0);
        }
    }

    static void p13_everyNumberIsFine() {
        SandPicture x = new SandPicture();
        int was = 1;
        for (int v : new int[] {0, -1, LOW, HIGH, BAD, NONE, 1}) {
            is("what it was", x.seed(v), was);
            is("what it is", x.count(7), v);
            was = v;
        }
    }

    // ---- head 2: a draw

    static void t2_zWrapsAndADrawIsNeverBelow0() {
        for (int seed : new int[] {0, 1, -1, LOW, HIGH, 12345, -12345, 1 << 30, 3 << 30}) {
            SandPicture x = new SandPicture();
            x.seed(seed);
            is("all come", x.deal(10), 10);
            int[] z = {seed};
            for (int m = 0; m < 10; m++) {
                is("kind", x.told(m, 0), drawn(z) % 6);
                is("pace", x.told(m, 1), 1 + drawn(z) % 20);
                is("at", x.told(m, 2), drawn(z) % 6);
            }
            is("z", x.count(7), z[0]);
        }
    }
}
