/** Edges of promises 31 to 39, and of head 5 of the terms: sheets and slots. */
public final class EdgesSheetsTest extends Cases {
    public static void main(String[] args) throws ReflectiveOperationException {
        run(EdgesSheetsTest.class);
    }

    // ---- head 5: as all is at first

    static void t5_sheetsAreMissingAtFirst() {
        for (int s = 0; s < 4; s++) {
            SandPicture x = new SandPicture();
            x.monk(0, 1, 0);
            is("mark", x.mark(s, 0, 1), NOTHING);
            is("pour", x.pour(s), NOTHING);
            is("reads", x.reads(s), NOTHING);
            is("copy from", x.copy(s, 0, s, 0, 0), NOTHING);
            is("lay", x.lay(0, 2, s), NOTHING);
            is("paced", x.paced(s, 0, 0), NOTHING);
        }
    }

    static void t5_slotsHoldNothingAtFirst() {
        for (int s = 0; s < 5; s++) {
            SandPicture x = new SandPicture();
            is("ask", x.ask(s, 0), NOTHING);
            is("item", x.item(s, 0), NOTHING);
            is("rest", x.rest(s, 1), NOTHING);
            is("lay", x.lay(s, 3, 1), 0);
        }
    }

    // ---- promise 31: sheet

    static void p31_sheet() {
        range("sheet", 0, 3, (x, v) -> x.sheet(v, 0, 1));
    }

    static void p31_sort() {
        range("sort", -1, 1, (x, v) -> x.sheet(0, v, 1));
    }

    static void p31_nAbove24IsBad() {
        for (int sort = 0; sort < 2; sort++) {
            int as = sort;
            is("24", new SandPicture().sheet(0, sort, 24), 24);
            refused("25", BAD, x -> x.sheet(0, as, 25));
            refused("the greatest", BAD, x -> x.sheet(0, as, HIGH));
        }
    }

    static void p31_nBelow0IsSize() {
        for (int sort = 0; sort < 2; sort++) {
            int as = sort;
            is("0", new SandPicture().sheet(0, sort, 0), 0);
            refused("-1", SIZE, x -> x.sheet(0, as, -1));
            refused("the least", SIZE, x -> x.sheet(0, as, LOW));
            refused("NONE is a number below 0", SIZE, x -> x.sheet(1, as, NONE));
        }
    }

    static void p31_badAheadOfSize() {
        refused("sheet", BAD, x -> x.sheet(4, 0, -1));
        refused("sort", BAD, x -> x.sheet(0, 2, -1));
        refused("sort", BAD, x -> x.sheet(0, -2, -1));
    }

    static void p31_missingWithAnyN() {
        for (int n : new int[] {0, 1, 24, 25, -1, HIGH, LOW, NONE}) {
            SandPicture x = Twins.rich();
            is("0", x.sheet(0, -1, n), 0);
            is("missing", x.reads(0), NOTHING);
        }
    }

    static void p31_missingThatIsMissing() {
        onlyTells("sheet 3", x -> x.sheet(3, -1, 7));
    }

    static void p31_badSheetThoughItShallBeMissing() {
        refused("4", BAD, x -> x.sheet(4, -1, 0));
        refused("-1", BAD, x -> x.sheet(-1, -1, 0));
    }

    static void p31_aRowOf0PlacesIsNotMissing() {
        SandPicture x = new SandPicture();
        x.sheet(0, 0, 0);
        is("no place", x.mark(0, 0, 1), INDEX);
        is("lay", x.lay(0, 2, 0), 0);
        is("no item", x.item(0, 0), INDEX);
    }

    static void p31_all0Again() {
        SandPicture x = new SandPicture();
        x.sheet(0, 1, 24);
        for (int i = 0; i < 24; i++) {
            x.mark(0, i, i % 2 == 0 ? NONE : 99);
        }
        x.sheet(0, 0, 1);
        x.sheet(0, 1, 24);
        sheetIs(x, 0, new int[24]);
        x.mark(0, 23, NONE);
        x.sheet(0, 0, 24);
        sheetIs(x, 0, new int[24]);
    }

    static void p31_placesBeyondAShorterRowAreGone() {
        SandPicture x = new SandPicture();
        x.sheet(0, 0, 5);
        x.mark(0, 4, 9);
        x.sheet(0, 0, 4);
        is("no such place", x.mark(0, 4, 9), INDEX);
        x.sheet(0, 0, 5);
        sheetIs(x, 0, 0, 0, 0, 0, 0);
    }

    // ---- promise 32: mark

    static void p32_sheet() {
        range("sheet", 0, 3, (x, v) -> x.mark(v, 0, 1));
    }

    static void p32_nothing() {
        refused("missing", NOTHING, x -> x.mark(3, 0, 1));
    }

    static void p32_index() {
        for (int place : new int[] {-1, 3, 4, 24, HIGH, LOW}) {
            refused("shorts " + place, INDEX, x -> x.mark(0, place, 1));
        }
        for (int place : new int[] {-1, 8, 24, HIGH, LOW}) {
            refused("floats " + place, INDEX, x -> x.mark(1, place, 1));
        }
        refused("no places", INDEX, x -> x.mark(2, 0, 1));
    }

    static void p32_theFirstAndTheLastPlace() {
        SandPicture x = new SandPicture();
        x.sheet(0, 0, 24);
        is("first", x.mark(0, 0, 5), 1);
        is("last", x.mark(0, 23, 6), 1);
        int[] due = new int[24];
        due[0] = 5;
        due[23] = 6;
        sheetIs(x, 0, due);
    }

    static void p32_ofShortsTheLowest16Bits() {
        int[] given = {32767, 32768, 65535, 65536, 65537, -32768, -32769, -65536, HIGH, LOW, NONE + 1, BAD};
        int[] due = {32767, -32768, -1, 0, 1, -32768, 32767, 0, -1, 0, 13820, 13823};
        SandPicture x = new SandPicture();
        x.sheet(0, 0, given.length);
        for (int i = 0; i < given.length; i++) {
            is("any but NONE", x.mark(0, i, given[i]), 1);
        }
        sheetIs(x, 0, due);
    }

    static void p32_kindIfNoneInARowOfShorts() {
        refused("NONE", KIND, x -> x.mark(0, 0, NONE));
    }

    static void p32_ofFloatsUpTo99999() {
        SandPicture x = new SandPicture();
        x.sheet(0, 1, 2);
        is("most", x.mark(0, 0, 99999), 1);
        is("least", x.mark(0, 1, -99999), 1);
        sheetIs(x, 0, 99999, -99999);
        for (int v : new int[] {100000, -100000, HIGH, LOW, NONE - 1, NONE + 1, BAD, KIND}) {
            refused("" + v, BAD, y -> y.mark(1, 0, v));
        }
    }

    static void p32_noNumber() {
        SandPicture x = new SandPicture();
        x.sheet(0, 1, 1);
        is("NONE", x.mark(0, 0, NONE), 1);
        sheetIs(x, 0, KIND);
        is("a number again", x.mark(0, 0, 0), 1);
        sheetIs(x, 0, 0);
    }

    static void p32_byOrder() {
        refused("bad sheet ahead of all", BAD, x -> x.mark(4, 99, NONE));
        refused("nothing ahead of index", NOTHING, x -> x.mark(3, 99, NONE));
        refused("index ahead of kind", INDEX, x -> x.mark(0, 3, NONE));
        refused("index ahead of bad v", INDEX, x -> x.mark(1, 8, 100000));
    }

    // ---- promise 33: pour

    static void p33_sheet() {
        range("sheet", 0, 3, (x, v) -> x.pour(v));
    }

    static void p33_nothing() {
        refused("missing", NOTHING, x -> x.pour(3));
    }

    static void p33_heldWithin1And999() {
        SandPicture x = new SandPicture();
        x.sheet(0, 0, 6);
        marks(x, 0, 0, 1, -32768, 999, 1000, 32767);
        is("all are otherwise", x.pour(0), 6);
        int[] due = {1, 1, 1, 999, 999, 999};
        for (int t = 0; t < 6; t++) {
            is("shorts, table " + t, x.table(t, 0), due[t]);
        }
        x.sheet(0, 1, 6);
        marks(x, 0, -99999, 99999, 2, 998, -1, 1000);
        is("four are otherwise", x.pour(0), 4);
        int[] floats = {1, 999, 2, 998, 1, 999};
        for (int t = 0; t < 6; t++) {
            is("floats, table " + t, x.table(t, 0), floats[t]);
        }
    }

    static void p33_noNumberStays() {
        SandPicture x = new SandPicture();
        x.sheet(0, 1, 6);
        marks(x, 0, NONE, NONE, NONE, NONE, NONE, NONE);
        is("none", x.pour(0), 0);
        x.mark(0, 5, 7);
        is("one", x.pour(0), 1);
        is("stays", x.table(4, 0), 100);
        is("becomes", x.table(5, 0), 7);
    }

    static void p33_beyondTheSheetStays() {
        for (int n = 0; n <= 6; n++) {
            SandPicture x = new SandPicture();
            x.sheet(0, 0, n);
            is("as many as places", x.pour(0), n);
            for (int t = 0; t < 6; t++) {
                is("table " + t + " of " + n, x.table(t, 0), t < n ? 1 : 100);
            }
        }
    }

    static void p33_placesBeyondAllTables() {
        SandPicture x = new SandPicture();
        x.sheet(0, 0, 24);
        for (int i = 0; i < 24; i++) {
            x.mark(0, i, 100 + i / 6);
        }
        is("none is otherwise", x.pour(0), 0);
    }

    static void p33_onlyThoseThatAreOtherwise() {
        SandPicture x = new SandPicture();
        x.sheet(0, 0, 3);
        marks(x, 0, 100, 101, 100);
        is("one", x.pour(0), 1);
        is("none", x.pour(0), 0);
        x.need(0, 999);
        x.mark(0, 0, 5000);
        is("held, it is as it was", x.pour(0), 0);
    }

    // ---- promise 34: reads

    static void p34_sheet() {
        range("sheet", 0, 3, (x, v) -> x.reads(v));
    }

    static void p34_nothing() {
        refused("missing", NOTHING, x -> x.reads(3));
    }

    static void p34_noPlacesNone() {
        SandPicture x = new SandPicture();
        x.sheet(0, 0, 0);
        is("none", x.reads(0), NONE);
    }

    static void p34_allAsDoneNone() {
        SandPicture x = calmWith(8, 0, 5);
        x.hours(1);
        x.sheet(0, 0, 6);
        marks(x, 0, 8, 0, 0, 0, 0, 8);
        is("none", x.reads(0), NONE);
        x.mark(0, 5, 9);
        is("the last", x.reads(0), 5);
        x.mark(0, 0, 7);
        is("the first of two", x.reads(0), 0);
    }

    static void p34_noNumberIsNotLookedAt() {
        SandPicture x = new SandPicture();
        x.sheet(0, 1, 6);
        marks(x, 0, NONE, NONE, NONE, NONE, NONE, NONE);
        is("none", x.reads(0), NONE);
        x.mark(0, 3, -1);
        is("3", x.reads(0), 3);
    }

    static void p34_ofPlacesThatAreNoTableAllNumbersAreNot() {
        SandPicture x = new SandPicture();
        x.sheet(0, 0, 7);
        is("0 at place 6", x.reads(0), 6);
        x.sheet(0, 1, 24);
        for (int i = 6; i < 24; i++) {
            is("the first number", x.reads(0), i);
            x.mark(0, i, NONE);
        }
        is("none is a number", x.reads(0), NONE);
    }

    static void p34_doneNotItsLowestBits() {
        SandPicture x = calmWith(99, 0);
        x.hours(1);
        x.sheet(0, 0, 1);
        x.mark(0, 0, 99 + 65536);
        is("shorts keep the lowest bits", x.reads(0), NONE);
        x.sheet(0, 1, 1);
        x.mark(0, 0, 99 + 65536);
        is("floats keep all", x.reads(0), 0);
    }

    static void p34_onlyTells() {
        onlyTells("reads", x -> x.reads(1));
    }

    // ---- promise 35: copy

    static void p35_from() {
        range("from", 0, 3, (x, v) -> x.copy(v, 0, 0, 0, 0));
    }

    static void p35_to() {
        range("to", 0, 3, (x, v) -> x.copy(0, 0, v, 0, 0));
    }

    static void p35_nothing() {
        refused("from", NOTHING, x -> x.copy(3, 0, 0, 0, 1));
        refused("to", NOTHING, x -> x.copy(0, 0, 3, 0, 1));
        refused("both", NOTHING, x -> x.copy(3, 0, 3, 0, 0));
    }

    static void p35_kindIfNotOfOneSort() {
        refused("shorts to floats", KIND, x -> x.copy(0, 0, 1, 0, 1));
        refused("floats to shorts", KIND, x -> x.copy(1, 0, 0, 0, 1));
        refused("none of them", KIND, x -> x.copy(0, 0, 1, 0, 0));
    }

    static void p35_indexAtEachEnd() {
        refused("place -1", INDEX, x -> x.copy(1, -1, 1, 0, 1));
        refused("at -1", INDEX, x -> x.copy(1, 0, 1, -1, 1));
        refused("place at the end", INDEX, x -> x.copy(1, 8, 1, 0, 1));
        refused("at at the end", INDEX, x -> x.copy(1, 0, 1, 8, 1));
        refused("one too many from", INDEX, x -> x.copy(1, 5, 1, 0, 4));
        refused("one too many to", INDEX, x -> x.copy(1, 0, 1, 5, 4));
        refused("nine of eight", INDEX, x -> x.copy(1, 0, 1, 0, 9));
        refused("the greatest", INDEX, x -> x.copy(1, 0, 1, 0, HIGH));
        refused("their sum wraps", INDEX, x -> x.copy(1, HIGH, 1, 0, 1));
        refused("their sum wraps", INDEX, x -> x.copy(1, 0, 1, HIGH, HIGH));
        refused("the least", INDEX, x -> x.copy(1, LOW, 1, LOW, 1));
    }

    static void p35_manyBelow0IsIndex() {
        refused("-1", INDEX, x -> x.copy(1, 1, 1, 1, -1));
        refused("the least", INDEX, x -> x.copy(1, 1, 1, 1, LOW));
    }

    static void p35_many0() {
        onlyTells("at the start", x -> x.copy(1, 0, 1, 0, 0));
        is("0", Twins.rich().copy(1, 0, 1, 0, 0), 0);
        is("right behind the end", Twins.rich().copy(1, 8, 1, 8, 0), 0);
        is("rows of no places", Twins.rich().copy(2, 0, 2, 0, 0), 0);
        refused("further behind it", INDEX, x -> x.copy(1, 9, 1, 0, 0));
        refused("further behind it", INDEX, x -> x.copy(1, 0, 1, 9, 0));
    }

    static void p35_byOrder() {
        refused("bad ahead of nothing", BAD, x -> x.copy(3, 0, 4, 0, 1));
        refused("bad ahead of nothing", BAD, x -> x.copy(-1, 0, 3, 0, 1));
        refused("nothing ahead of index", NOTHING, x -> x.copy(3, -1, 0, -1, -1));
        refused("kind ahead of index", KIND, x -> x.copy(0, -1, 1, -1, -1));
    }

    private static SandPicture counted() {
        SandPicture x = new SandPicture();
        x.sheet(0, 0, 6);
        marks(x, 0, 1, 2, 3, 4, 5, 6);
        return x;
    }

    static void p35_withinTheSameAsTheyWere() {
        SandPicture x = counted();
        is("forwards", x.copy(0, 0, 0, 1, 5), 5);
        sheetIs(x, 0, 1, 1, 2, 3, 4, 5);
        x = counted();
        is("backwards", x.copy(0, 1, 0, 0, 5), 5);
        sheetIs(x, 0, 2, 3, 4, 5, 6, 6);
        x = counted();
        is("onto itself", x.copy(0, 0, 0, 0, 6), 6);
        sheetIs(x, 0, 1, 2, 3, 4, 5, 6);
    }

    static void p35_allOf24() {
        SandPicture x = new SandPicture();
        x.sheet(0, 1, 24);
        x.sheet(1, 1, 24);
        x.mark(0, 0, NONE);
        x.mark(0, 23, -99999);
        is("24", x.copy(0, 0, 1, 0, 24), 24);
        int[] due = new int[24];
        due[0] = KIND;
        due[23] = -99999;
        sheetIs(x, 1, due);
    }

    static void p35_toAShorterAndALongerOne() {
        SandPicture x = counted();
        x.sheet(1, 0, 2);
        is("its end", x.copy(0, 4, 1, 0, 2), 2);
        sheetIs(x, 1, 5, 6);
        is("one too many", x.copy(0, 0, 1, 0, 3), INDEX);
        is("one too many there", x.copy(1, 0, 0, 0, 3), INDEX);
        is("back", x.copy(1, 1, 0, 5, 1), 1);
        sheetIs(x, 0, 1, 2, 3, 4, 5, 6);
    }

    // ---- promise 36: lay

    static void p36_slot() {
        range("slot", 0, 4, (x, v) -> x.lay(v, 0, 0));
    }

    static void p36_thing() {
        range("thing", 0, 3, (x, v) -> x.lay(0, v, 0));
    }

    static void p36_kOfAMonk() {
        range("k", 0, 5, (x, v) -> x.lay(1, 1, v));
    }

    static void p36_kOfASheet() {
        range("k", 0, 3, (x, v) -> x.lay(1, 2, v));
    }

    static void p36_anyNumber() {
        for (int k : new int[] {0, -1, HIGH, LOW, BAD, NONE, NOTHING}) {
            SandPicture x = new SandPicture();
            is("number", x.lay(0, 3, k), 0);
            is("it", x.rest(0, HIGH), k % HIGH);
            is("held", x.lay(0, 3, 5), 3);
        }
    }

    static void p36_nothingWithAnyK() {
        for (int k : new int[] {0, -1, 99, HIGH, LOW}) {
            SandPicture x = Twins.rich();
            is("what it held", x.lay(3, 0, k), 3);
            is("nothing", x.rest(3, 1), NOTHING);
        }
    }

    static void p36_nothingIfTheSheetIsMissing() {
        refused("sheet 3", NOTHING, x -> x.lay(2, 2, 3));
    }

    static void p36_badAheadOfNothing() {
        refused("slot 5", BAD, x -> x.lay(5, 2, 3));
        refused("slot -1", BAD, x -> x.lay(-1, 2, 3));
    }

    static void p36_whatItHeld() {
        SandPicture x = Twins.rich();
        is("nothing", x.lay(0, 1, 0), 0);
        is("a monk", x.lay(0, 2, 0), 1);
        is("a sheet", x.lay(0, 3, 0), 2);
        is("a number", x.lay(0, 0, 0), 3);
        is("nothing", x.lay(0, 0, 0), 0);
    }

    static void p36_aMonkAsItIsThenForGood() {
        SandPicture x = new SandPicture();
        x.keep();
        x.monk(PROUD, 40, 2);
        x.lay(0, 1, 0);
        x.set(0, 1, 99);
        x.turns(0, GUEST);
        is("its worth then", x.ask(0, PROUD), 50);
        x.back();
        is("though there is no such monk", x.ask(0, NOVICE), 50);
        x.monk(SLOW, 1, 0);
        is("though there is another", x.ask(0, MONK), 50);
    }

    static void p36_aSheetAsItWasThen() {
        SandPicture x = counted();
        x.lay(0, 2, 0);
        x.lay(1, 2, 0);
        x.mark(0, 0, 77);
        slotIs(x, 0, 1, 2, 3, 4, 5, 6);
        x.sheet(0, 1, 1);
        slotIs(x, 0, 1, 2, 3, 4, 5, 6);
        x.sheet(0, -1, 0);
        slotIs(x, 0, 1, 2, 3, 4, 5, 6);
        slotIs(x, 1, 1, 2, 3, 4, 5, 6);
    }

    static void p36_aShorterRowInTheSameSlot() {
        SandPicture x = counted();
        x.lay(0, 2, 0);
        x.sheet(1, 0, 2);
        is("a sheet", x.lay(0, 2, 1), 2);
        slotIs(x, 0, 0, 0);
        x.sheet(1, 1, 0);
        x.lay(0, 2, 1);
        slotIs(x, 0);
    }

    // ---- promise 37: ask

    static void p37_slot() {
        range("slot", 0, 4, (x, v) -> x.ask(v, 0));
    }

    static void p37_kind() {
        range("kind", 0, 5, (x, v) -> x.ask(1, v));
    }

    static void p37_nothing() {
        refused("slot 0", NOTHING, x -> x.ask(0, 0));
    }

    static void p37_kindIfItIsNoMonk() {
        refused("a sheet", KIND, x -> x.ask(2, 0));
        refused("a number", KIND, x -> x.ask(3, 0));
    }

    static void p37_kindIfItIsNotOfThatKindNorUnder() {
        String[] of = {"0", "01", "02", "013", "024", "05"};
        for (int m = 0; m < 6; m++) {
            SandPicture x = new SandPicture();
            x.monk(m, 60, 0);
            x.lay(0, 1, 0);
            for (int k = 0; k < 6; k++) {
                is("monk " + m + " for " + k, x.ask(0, k), of[m].indexOf('0' + k) >= 0 ? x.told(0, 3) : KIND);
            }
        }
        refused("an old one for a guest", KIND, x -> x.ask(1, GUEST));
    }

    static void p37_badAheadOfNothingAndKind() {
        refused("kind 6 of nothing", BAD, x -> x.ask(0, 6));
        refused("kind -1 of a number", BAD, x -> x.ask(3, -1));
    }

    static void p37_worthBelow0() {
        SandPicture x = new SandPicture();
        x.monk(PROUD, 99, 0);
        x.lay(0, 1, 0);
        is("-9", x.ask(0, MONK), -9);
    }

    static void p37_onlyTells() {
        onlyTells("ask", x -> x.ask(1, OLD));
    }

    // ---- promise 38: item

    static void p38_slot() {
        range("slot", 0, 4, (x, v) -> x.item(v, 0));
    }

    static void p38_nothing() {
        refused("slot 0", NOTHING, x -> x.item(0, 0));
    }

    static void p38_kindIfItIsNoSheet() {
        refused("a monk", KIND, x -> x.item(1, 0));
        refused("a number", KIND, x -> x.item(3, 0));
    }

    static void p38_index() {
        for (int place : new int[] {-1, 8, 24, HIGH, LOW, NONE}) {
            refused("" + place, INDEX, x -> x.item(2, place));
        }
        is("the last place", Twins.rich().item(2, 7), 29);
        is("the first place", Twins.rich().item(2, 0), -20);
    }

    static void p38_kindIfNoNumber() {
        refused("place 1", KIND, x -> x.item(2, 1));
    }

    static void p38_byOrder() {
        refused("nothing ahead of index", NOTHING, x -> x.item(0, -1));
        refused("kind ahead of index", KIND, x -> x.item(3, -1));
    }

    static void p38_onlyTells() {
        onlyTells("item", x -> x.item(2, 0));
    }

    // ---- promise 39: rest

    static void p39_slot() {
        range("slot", 0, 4, (x, v) -> x.rest(v, 5));
    }

    static void p39_nothing() {
        refused("slot 0", NOTHING, x -> x.rest(0, 5));
    }

    static void p39_kindIfItIsNoNumber() {
        refused("a monk", KIND, x -> x.rest(1, 5));
        refused("a sheet", KIND, x -> x.rest(2, 5));
    }

    static void p39_noIfNIs0() {
        refused("0", NO, x -> x.rest(3, 0));
    }

    static void p39_byOrder() {
        refused("bad ahead of no", BAD, x -> x.rest(5, 0));
        refused("nothing ahead of no", NOTHING, x -> x.rest(0, 0));
        refused("kind ahead of no", KIND, x -> x.rest(1, 0));
    }

    private static int restOf(int number, int n) {
        SandPicture x = new SandPicture();
        x.lay(0, 3, number);
        return x.rest(0, n);
    }

    static void p39_overIsCutTowards0() {
        is("17 by 5", restOf(17, 5), 2);
        is("-17 by 5", restOf(-17, 5), -2);
        is("17 by -5", restOf(17, -5), 2);
        is("-17 by -5", restOf(-17, -5), -2);
        is("4 by 5", restOf(4, 5), 4);
        is("5 by 5", restOf(5, 5), 0);
        is("0 by 5", restOf(0, 5), 0);
        is("by 1", restOf(17, 1), 0);
    }

    static void p39_theLeastAndTheGreatest() {
        is("the least by -1", restOf(LOW, -1), 0);
        is("the least by the least", restOf(LOW, LOW), 0);
        is("the least by the greatest", restOf(LOW, HIGH), -1);
        is("the greatest by the least", restOf(HIGH, LOW), HIGH);
        is("1 by the least", restOf(1, LOW), 1);
    }

    static void p39_onlyTells() {
        onlyTells("rest", x -> x.rest(3, 7));
    }
}
