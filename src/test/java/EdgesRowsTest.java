/** Edges of promises 40 to 44, of head 5 of the terms (the image), and of what the terms say of refusals (t0). */
public final class EdgesRowsTest extends Cases {
    public static void main(String[] args) throws ReflectiveOperationException {
        run(EdgesRowsTest.class);
    }

    // ---- promise 40: tell

    static void p40_upTo60() {
        SandPicture x = new SandPicture();
        for (int i = 1; i <= 60; i++) {
            is("how many", x.tell(i), i);
        }
        is("full", x.tell(61), FULL);
        is("60", x.count(5), 60);
    }

    private static SandPicture with60() {
        SandPicture x = Twins.rich();
        for (int i = x.count(5); i < 60; i++) {
            x.tell(7);
        }
        return x;
    }

    static void p40_fullChangesNothing() {
        SandPicture one = with60();
        is("full", one.tell(5), FULL);
        alike("full", one, with60());
    }

    static void p40_anyNumber() {
        SandPicture x = new SandPicture();
        is("the least", x.tell(LOW), 1);
        is("the greatest", x.tell(HIGH), 2);
        is("BAD", x.tell(BAD), 3);
        is("NONE", x.tell(NONE), 4);
    }

    static void p40_fromNoneAgainBehindACheck() {
        SandPicture x = with60();
        x.check(1);
        is("one", x.tell(1), 1);
    }

    // ---- promise 41: check

    /** As many numbers of the image's HOURS as told, of a picture in which each HOUR pours ten at TABLE 0. */
    private static SandPicture pourer() {
        SandPicture x = calmWith(10, 0);
        x.need(0, 999);
        x.keep();
        return x;
    }

    private static void tellRows(SandPicture x, int many) {
        for (int i = 0; i < many; i++) {
            int hour = 1 + i / 2;
            x.tell(i % 2 == 0 ? 10 * hour : 3000 - 10 * hour);
        }
    }

    /** check's refusals use the numbers up, so that the twin's are used up too. */
    private static void refusedBut(String call, int want, Act act, SandPicture one, SandPicture other) {
        is(call, act.on(one), want);
        is("none waits", one.count(5), 0);
        other.check(1);
        alike(call, one, other);
    }

    static void p41_n() {
        for (int n : new int[] {0, -1, 31, 32, HIGH, LOW, NONE}) {
            refusedBut("check " + n, BAD, x -> x.check(n), Twins.rich(), Twins.rich());
        }
        for (int n = 1; n <= 30; n++) {
            SandPicture x = pourer();
            tellRows(x, 2 * n);
            is("check " + n, x.check(n), 0);
            is("none waits", x.count(5), 0);
        }
    }

    static void p41_noImage() {
        SandPicture one = new SandPicture();
        SandPicture other = new SandPicture();
        one.tell(1);
        refusedBut("no image", NO, x -> x.check(1), one, other);
    }

    static void p41_badAheadOfNo() {
        SandPicture x = new SandPicture();
        x.tell(1);
        is("0", x.check(0), BAD);
        is("none waits", x.count(5), 0);
        is("31", x.check(31), BAD);
    }

    static void p41_noneWaits() {
        SandPicture x = pourer();
        is("the first is missing", x.check(1), 1);
        is("the first is missing", x.check(30), 1);
    }

    static void p41_theFirstThatIsNot() {
        for (int wrong = 0; wrong < 6; wrong++) {
            SandPicture x = pourer();
            for (int i = 0; i < 6; i++) {
                int hour = 1 + i / 2;
                int due = i % 2 == 0 ? 10 * hour : 3000 - 10 * hour;
                x.tell(i == wrong ? due + 1 : due);
            }
            is("wrong at " + wrong, x.check(3), 1 + wrong);
            is("none waits", x.count(5), 0);
        }
    }

    static void p41_theFirstOfTwoThatAreNot() {
        SandPicture x = pourer();
        x.tell(10);
        x.tell(5);
        x.tell(20);
        x.tell(5);
        is("the second", x.check(2), 2);
    }

    static void p41_missing() {
        for (int many = 0; many < 6; many++) {
            SandPicture x = pourer();
            tellRows(x, many);
            is("missing behind " + many, x.check(3), 1 + many);
        }
    }

    static void p41_missingThoughItWasToldAheadOfAnotherCheck() {
        SandPicture x = pourer();
        tellRows(x, 6);
        is("as due", x.check(3), 0);
        tellRows(x, 5);
        is("the last one is not told anew", x.check(3), 6);
        is("none is told anew", x.check(3), 1);
    }

    static void p41_tooMany() {
        for (int many = 7; many <= 60; many++) {
            SandPicture x = pourer();
            tellRows(x, many);
            is("too many, " + many, x.check(3), 7);
        }
    }

    static void p41_noMoreThanCanBeTold() {
        SandPicture x = pourer();
        tellRows(x, 60);
        is("all 60", x.check(30), 0);
        tellRows(x, 60);
        is("one hour fewer", x.check(29), 59);
    }

    static void p41_fewerIfTheHourWouldBeAbove9999() {
        for (int left = 0; left <= 2; left++) {
            SandPicture x = calmWith(10, 0);
            x.need(0, 999);
            x.river(0, 0);
            passTo(x, 9999 - left);
            x.river(0, 1000);
            x.keep();
            tellRows(x, 2 * left);
            is("left " + left, x.check(30), 0);
            tellRows(x, 2 * left + 1);
            is("one too many, left " + left, x.check(30), 2 * left + 1);
            tellRows(x, 2 * left);
            is("as many as asked, left " + left, x.check(Math.max(1, left)), 0);
        }
    }

    static void p41_notFewerIfOnlyTheHourNowIs9999() {
        SandPicture x = pourer();
        passTo(x, 9999);
        tellRows(x, 60);
        is("thirty from the image's hour", x.check(30), 0);
    }

    static void p41_byTheImageNotByNow() {
        SandPicture x = pourer();
        x.set(0, 1, 50);
        x.seed(9);
        x.hours(5);
        Due.text(x, "pour 1");
        tellRows(x, 8);
        is("as it was kept", x.check(4), 0);
        x.keep();
        tellRows(x, 2);
        is("kept anew", x.check(1), 1);
    }

    static void p41_changesOnlyTheNumbersThatWait() {
        SandPicture one = Twins.rich();
        SandPicture other = Twins.rich();
        is("as due", one.check(Twins.HOURS_TOLD), 0);
        is("too few", other.check(30), 7);
        alike("either way", one, other);
    }

    // ---- promises 42, 43: keep, back

    static void p42_noMonks() {
        is("0", new SandPicture().keep(), 0);
    }

    static void p42_tenMonks() {
        SandPicture x = new SandPicture();
        x.deal(10);
        is("10", x.keep(), 10);
        is("10", x.back(), 10);
    }

    static void p42_theLastOneKeptIsTheImage() {
        SandPicture x = new SandPicture();
        x.keep();
        x.monk(0, 5, 0);
        is("1", x.keep(), 1);
        x.monk(0, 5, 0);
        is("1", x.back(), 1);
    }

    static void p43_noIfThereIsNone() {
        SandPicture one = new SandPicture();
        SandPicture other = new SandPicture();
        for (SandPicture x : new SandPicture[] {one, other}) {
            x.deal(3);
            x.hours(5);
            x.sheet(0, 0, 2);
            x.tell(4);
        }
        is("no", one.back(), NO);
        alike("no", one, other);
    }

    static void p43_againAndAgain() {
        SandPicture x = Twins.rich();
        x.back();
        int spilt = x.behind(30, 2);
        for (int i = 0; i < 20; i++) {
            x.hours(7);
            x.deal(1);
            x.need(0, 3 + i);
            is("its monks", x.back(), 6);
            is("its future", x.behind(30, 2), spilt);
        }
    }

    static void p43_rightBehindKeepNothingChanges() {
        SandPicture one = Twins.rich();
        SandPicture other = Twins.rich();
        one.keep();
        other.keep();
        is("back", one.back(), 6);
        alike("back", one, other);
    }

    static void p43_monksThatCameLaterAreGone() {
        SandPicture x = new SandPicture();
        x.monk(GUEST, 5, 0);
        x.keep();
        x.deal(9);
        x.back();
        is("one", x.count(0), 1);
        is("no other", x.told(1, 0), BAD);
        is("goes", x.goes(1, 1, 0), BAD);
    }

    static void p43_monksThatWereDealtInsteadAreOfTheImage() {
        SandPicture x = new SandPicture();
        x.monk(OLD, 33, 4);
        x.keep();
        x.turns(0, GUEST);
        x.set(0, 1, 1);
        x.set(0, 2, 0);
        x.back();
        is("kind", x.told(0, 0), OLD);
        is("pace", x.told(0, 1), 33);
        is("at", x.told(0, 2), 4);
    }

    // ---- head 5: what an image keeps

    static void t5_sheetsStayBehindBack() {
        SandPicture x = new SandPicture();
        x.sheet(0, 0, 2);
        x.mark(0, 0, 5);
        x.keep();
        x.mark(0, 0, 6);
        x.sheet(1, 1, 3);
        x.back();
        sheetIs(x, 0, 6, 0);
        sheetIs(x, 1, 0, 0, 0);
    }

    static void t5_slotsStayBehindBack() {
        SandPicture x = new SandPicture();
        x.lay(0, 3, 5);
        x.keep();
        x.lay(0, 3, 6);
        x.lay(1, 3, 7);
        x.back();
        is("slot 0", x.rest(0, 100), 6);
        is("slot 1", x.rest(1, 100), 7);
    }

    static void t5_numbersThatWaitStayBehindBack() {
        SandPicture x = pourer();
        tellRows(x, 3);
        x.back();
        is("three", x.count(5), 3);
        x.tell(2980);
        is("they are as told", x.check(2), 0);
    }

    static void t5_theTapeStaysBehindBack() {
        SandPicture x = new SandPicture();
        x.keep();
        Due.tape(x, "fine 31");
        x.back();
        is("seven bytes", x.count(6), 7);
        is("text", x.text(), 0);
        is("31", x.fine(), 31);
    }

    static void t5_allElseIsKept() {
        SandPicture x = Twins.rich();
        x.keep();
        SandPicture other = Twins.rich();
        other.keep();
        x.deal(4);
        x.wind(99);
        x.seed(5);
        x.hours(33);
        x.need(0, 1);
        x.river(0, 1);
        x.sneeze(1);
        int tape = x.count(6);
        x.trim(0);
        Due.text(x, "pour 5");
        Due.text(x, "back 5");
        Due.text(x, "fine 5");
        is("the tape was", tape, 24);
        x.back();
        other.trim(0);
        alike("behind back", x, other);
    }

    static void t5_endsWipedSpiltAndTheHourAreKept() {
        SandPicture x = calmWith(10, 0, 1, 2, 3, 4, 5);
        for (int t = 0; t < 6; t++) {
            x.need(t, 10);
        }
        Due.text(x, "back d-1");
        x.hours(2);
        x.keep();
        x.hours(5);
        is("ends now", x.grains(7), 7);
        for (int i = 0; i < 2; i++) {
            x.back();
            is("ends", x.grains(7), 2);
            is("wiped", x.grains(6), 12);
            is("spilt", x.grains(0), 12);
            is("the hour", x.count(1), 2);
            x.hours(1);
        }
    }

    static void t5_textsOfTheImageCountAgain() {
        SandPicture x = new SandPicture();
        Due.text(x, "fine 1");
        x.keep();
        Due.text(x, "fine 2");
        is("2", x.fine(), 2);
        x.back();
        is("1", x.fine(), 1);
        Due.text(x, "fine 3");
        is("3", x.fine(), 3);
        is("its number", x.why(2), 1);
        x.back();
        is("1", x.fine(), 1);
        is("its number", x.why(2), 0);
    }

    static void t5_aFaultBehindBackLeavesTheImagesTexts() {
        SandPicture x = new SandPicture();
        Due.text(x, "fine 1");
        x.keep();
        x.back();
        Due.text(x, "fine 2+");
        Due.text(x, "fine 9 9");
        is("1", x.fine(), 1);
        is("one text", x.textTold(0, 1), 1);
    }

    static void t5_theHoursToldAreBehindEach() {
        SandPicture x = calmWith(10, 0);
        x.need(0, 10);
        x.keep();
        x.tell(0);
        x.tell(3000);
        is("wiped in the hour", x.check(1), 0);
    }

    // ---- promise 44: count

    static void p44_what() {
        range("what", 0, 7, (x, v) -> x.count(v));
    }

    static void p44_onlyTells() {
        for (int what = 0; what < 8; what++) {
            int asked = what;
            onlyTells("count " + what, x -> x.count(asked));
        }
    }

    static void p44_tablesThatHaveFaults() {
        SandPicture x = calm();
        is("none", x.count(3), 0);
        for (int t = 0; t < 6; t++) {
            x.monk(GUEST, 1, t);
            x.hours(1);
            is("as many as guests", x.count(3), t + 1);
        }
        for (int t = 0; t < 6; t++) {
            x.need(t, 1);
        }
        x.hours(1);
        is("wiped", x.count(3), 0);
    }

    static void p44_atTheirMost() {
        SandPicture x = new SandPicture();
        x.deal(10);
        x.wind(100);
        passTo(x, 9999);
        for (int i = 0; i < 14; i++) {
            Due.text(x, "fine " + i);
        }
        for (int i = 0; i < 61; i++) {
            x.tell(i);
        }
        for (int i = 0; i < 9; i++) {
            x.feed(i, i, i);
        }
        x.seed(LOW);
        int[] due = {10, 9999, 100, x.count(3), 14, 60, 96, LOW};
        for (int what = 0; what < 8; what++) {
            is("what " + what, x.count(what), due[what]);
        }
    }

    // ---- t0: refusals

    static void t0_theAnswersAreAllDifferent() {
        int[] all = {BAD, NO, FULL, NONE, NOTHING, KIND, INDEX, SIZE};
        int[] due = {-1000000001, -1000000002, -1000000003, -1000000005, -1000000011, -1000000012, -1000000013, -1000000014};
        for (int i = 0; i < all.length; i++) {
            is("answer " + i, all[i], due[i]);
        }
    }

    static void t0_aRowOfRefusalsChangesNothing() {
        SandPicture x = Twins.rich();
        for (int round = 0; round < 2; round++) {
            is("monk", x.monk(9, 9, 9), BAD);
            is("turns", x.turns(9, 9), BAD);
            is("set", x.set(9, 9, 9), BAD);
            is("need", x.need(9, 9), BAD);
            is("river", x.river(9, 9), BAD);
            is("wind", x.wind(999), BAD);
            is("deal", x.deal(99), BAD);
            is("hours", x.hours(999), BAD);
            is("sneeze", x.sneeze(9), BAD);
            is("trim", x.trim(99), BAD);
            is("sheet", x.sheet(9, 9, 9), BAD);
            is("mark", x.mark(9, 9, 9), BAD);
            is("pour", x.pour(9), BAD);
            is("copy", x.copy(9, 9, 9, 9, 9), BAD);
            is("lay", x.lay(9, 9, 9), BAD);
        }
        alike("none of them", x, Twins.rich());
    }

    static void t0_theLastOf512Calls() {
        SandPicture x = calmWith(10, 0);
        x.need(0, 10);
        for (int i = 3; i < 511; i++) {
            x.hours(i % 2 + 1);
        }
        is("the 512th call", x.grains(6), 508 * 3 / 2);
    }
}
