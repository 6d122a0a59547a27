/** Edges of promises 14 to 16, and of head 2 of the terms: what an hour is. */
public final class EdgesHoursTest extends Cases {
    public static void main(String[] args) throws ReflectiveOperationException {
        run(EdgesHoursTest.class);
    }

    // ---- head 2, (1): pouring

    static void t2_noMoreThanTheSand() {
        int[] sand = {0, 1, 6, 7, 8};
        int[] poured = {0, 1, 6, 7, 7};
        for (int i = 0; i < sand.length; i++) {
            SandPicture x = calmWith(7, 4);
            x.river(1, sand[i]);
            x.hours(1);
            is("done", x.table(4, 1), poured[i]);
            is("what is left", x.grains(3), sand[i] - poured[i]);
        }
    }

    static void t2_noMoreThanNeedLessDone() {
        for (int need = 7; need <= 15; need++) {
            SandPicture x = calmWith(7, 0);
            Due.text(x, "back 0");
            x.need(0, 100);
            x.hours(1);
            x.need(0, need);
            x.hours(1);
            is("poured, need " + need, 1000 - x.grains(2), Math.min(14, need));
            is("wiped, need " + need, x.table(0, 3), need <= 14 ? 1 : 0);
        }
    }

    static void t2_needLessDoneIs0AtLeast() {
        SandPicture x = calmWith(50, 0);
        Due.text(x, "back 0");
        x.hours(1);
        x.need(0, 1);
        x.hours(1);
        is("nothing is poured, nothing taken back", x.grains(2), 950);
        is("all is spilt", x.grains(0), 50);
    }

    static void t2_theFirstMonkTakesTheLastSand() {
        SandPicture x = calmWith(7, 3, 0);
        x.river(0, 10);
        x.hours(1);
        is("the first by numbers", x.table(3, 1), 7);
        is("what was left", x.table(0, 1), 3);
        is("dry", x.grains(2), 0);
    }

    static void t2_theSecondMonkFindsTheTableDone() {
        SandPicture x = calmWith(7, 2, 2, 2);
        Due.text(x, "back 0");
        x.need(2, 10);
        is("wiped once", x.hours(1), 1);
        is("ten and no more", x.grains(4), 990);
    }

    static void t2_guestAddsNoFaultIfTheRiverIsDry() {
        SandPicture x = calm();
        x.monk(GUEST, 9, 0);
        x.river(0, 0);
        x.hours(1);
        is("none", x.table(0, 2), 0);
        x.river(0, 1);
        x.hours(1);
        is("one, of one grain", x.table(0, 2), 1);
    }

    static void t2_guestAddsNoFaultIfTheTableIsDone() {
        SandPicture x = calm();
        x.monk(MONK, 20, 0);
        x.monk(GUEST, 9, 0);
        x.need(0, 20);
        Due.text(x, "back 100*f");
        x.hours(1);
        is("none comes back of no fault", x.grains(2), 980);
    }

    static void t2_guestAddsNoFaultIfItPoursNone() {
        SandPicture x = calm();
        x.monk(GUEST, 9, 0);
        Due.text(x, "pour 0");
        x.hours(1);
        is("none", x.table(0, 2), 0);
    }

    static void t2_proudOfOneGrain() {
        SandPicture x = calm();
        x.monk(PROUD, 9, 1);
        x.river(1, 1);
        x.hours(1);
        is("spilt", x.grains(0), 1);
        is("nothing done", x.table(1, 1), 0);
        is("a fault", x.table(1, 2), 1);
        is("dry", x.grains(3), 0);
    }

    static void t2_proudOfNone() {
        SandPicture x = calm();
        x.monk(PROUD, 9, 1);
        x.river(1, 0);
        x.hours(1);
        is("nothing spilt", x.grains(0), 0);
        is("no fault", x.table(1, 2), 0);
    }

    static void t2_noviceOf9AndOf10() {
        for (int sand = 9; sand <= 10; sand++) {
            SandPicture x = calm();
            x.monk(NOVICE, 50, 1);
            x.river(1, sand);
            x.hours(1);
            is("spilt of " + sand, x.grains(0), sand - 9);
            is("done of " + sand, x.table(1, 1), 9);
            is("faults of " + sand, x.table(1, 2), sand - 9);
        }
    }

    static void t2_spillsOfWhatIsPouredNotOfWhatItWould() {
        SandPicture x = calm();
        x.monk(NOVICE, 90, 0);
        x.need(0, 21);
        x.hours(1);
        is("spilt", x.grains(0), 2);
        is("done, not yet its need", x.table(0, 1), 19);
        is("sand", x.grains(2), 979);
    }

    static void t2_spiltIsMoreByEachSpilling() {
        SandPicture x = calm();
        Due.text(x, "pour 20");
        x.monk(PROUD, 1, 0);
        x.monk(PROUD, 1, 1);
        x.need(0, 999);
        x.need(1, 999);
        x.sneeze(0);
        x.river(0, 10);
        x.river(1, 10);
        x.hours(1);
        is("two of each ten", x.grains(0), 4);
        x.river(0, 10);
        x.hours(1);
        is("and two more", x.grains(0), 6);
        is("sneezed too", x.sneeze(0) + 6, x.grains(0));
    }

    static void t2_faultsAreMoreByEachPouring() {
        SandPicture x = calm();
        x.monk(GUEST, 1, 0);
        x.monk(GUEST, 1, 0);
        x.hours(1);
        is("two", x.table(0, 2), 2);
        x.hours(3);
        is("eight", x.table(0, 2), 8);
    }

    static void t2_xIsTheRestBy10() {
        boolean[] seen = new boolean[10];
        for (int seed = 0; seed < 100; seed++) {
            SandPicture x = calm();
            x.seed(seed);
            Due.text(x, "pour x");
            x.monk(MONK, 50, 0);
            x.hours(1);
            int due = drawn(new int[] {seed}) % 10;
            is("x", x.table(0, 1), due);
            seen[due] = true;
        }
        is("0 is among them", seen[0] ? 1 : 0, 1);
        is("9 is among them", seen[9] ? 1 : 0, 1);
    }

    static void t2_oneDrawForEachMonkEvenIfItPoursNone() {
        SandPicture x = calmWith(5, 0, 0, 0);
        x.river(0, 0);
        x.hours(1);
        int[] z = {1};
        for (int i = 0; i < 4; i++) {
            drawn(z);
        }
        is("three monks and the wind", x.count(7), z[0]);
    }

    // ---- head 2, (2): draughts

    /** A picture with so much DONE on one TABLE, its rivers dry, the wind sure, and z so that it blows from there. */
    private static SandPicture aboutToBlow(int table, int done) {
        SandPicture x = calmWith(1, table);
        for (int t = 0; t < 6; t++) {
            x.need(t, 999);
        }
        Due.text(x, "pour 999");
        x.river(table % 3, done);
        x.hours(1);
        x.wind(100);
        x.seed(seedThatBlowsFrom(table, 1));
        return x;
    }

    static void t2_aTenthIsCut() {
        int[] done = {0, 9, 10, 19, 20, 99, 100, 998};
        int[] blown = {0, 0, 1, 1, 2, 9, 10, 99};
        for (int i = 0; i < done.length; i++) {
            SandPicture x = aboutToBlow(2, done[i]);
            x.hours(1);
            is("left of " + done[i], x.table(2, 1), done[i] - blown[i]);
            is("blown of " + done[i], x.table(3, 1), blown[i]);
        }
    }

    static void t2_noFaultIfNothingIsBlown() {
        for (int done = 8; done <= 11; done++) {
            SandPicture x = aboutToBlow(2, done);
            x.hours(1);
            is("faults of " + done, x.grains(5), done >= 10 ? 1 : 0);
            is("at the next table", x.table(3, 2), done >= 10 ? 1 : 0);
        }
    }

    static void t2_theNextOneByNumbersRound() {
        for (int t = 0; t < 6; t++) {
            SandPicture x = aboutToBlow(t, 50);
            x.hours(1);
            for (int other = 0; other < 6; other++) {
                is("from " + t + " at " + other, x.table(other, 1), other == t ? 45 : other == (t + 1) % 6 ? 5 : 0);
                is("fault from " + t + " at " + other, x.table(other, 2), other == (t + 1) % 6 ? 1 : 0);
            }
        }
    }

    static void t2_onlyIfTheRestBy100IsBelowWind() {
        for (int seed = 0; seed < 400; seed++) {
            int[] z = {seed};
            int rest = drawn(z) % 100;
            SandPicture x = new SandPicture();
            x.seed(seed);
            x.wind(rest);
            x.hours(1);
            is("rest " + rest + ", wind the same", x.count(7), z[0]);
            x.seed(seed);
            x.wind(rest + 1);
            x.hours(1);
            drawn(z);
            is("rest " + rest + ", wind one more", x.count(7), z[0]);
        }
    }

    static void t2_wind0Never() {
        SandPicture x = calm();
        x.hours(100);
        int[] z = {1};
        for (int i = 0; i < 100; i++) {
            drawn(z);
        }
        is("one draw an hour", x.count(7), z[0]);
    }

    static void t2_wind100Always() {
        SandPicture x = calm();
        x.wind(100);
        x.hours(100);
        int[] z = {1};
        for (int i = 0; i < 200; i++) {
            drawn(z);
        }
        is("two draws an hour", x.count(7), z[0]);
    }

    static void t2_doneThereIsSoMuchMore() {
        SandPicture x = calmWith(1, 2);
        x.monk(GUEST, 9, 3);
        Due.text(x, "pour 999");
        x.need(2, 999);
        x.need(3, 999);
        x.river(2, 50);
        x.river(0, 9);
        x.hours(1);
        x.wind(100);
        x.seed(seedThatBlowsFrom(2, 2));
        x.hours(1);
        is("9, and 5 more", x.table(3, 1), 14);
        is("a guest's fault, and one more", x.table(3, 2), 2);
        is("what is left", x.table(2, 1), 45);
        is("no grain is lost", x.grains(1), 59);
    }

    static void t2_blownGrainsFinishATableInTheSameHour() {
        SandPicture x = aboutToBlow(2, 50);
        x.need(3, 5);
        is("wiped", x.hours(1), 1);
        is("the next one", x.table(3, 3), 1);
        is("its fault is gone", x.table(3, 2), 0);
        x = aboutToBlow(2, 50);
        x.need(3, 6);
        is("one grain lacks", x.hours(1), 0);
    }

    static void t2_blownGrainsUndoATableInTheSameHour() {
        SandPicture x = aboutToBlow(2, 50);
        x.need(2, 46);
        is("45 are left", x.hours(1), 0);
        x = aboutToBlow(2, 50);
        x.need(2, 45);
        is("45 are enough", x.hours(1), 1);
    }

    static void t2_doneMayBeAboveNeedByADraught() {
        SandPicture x = aboutToBlow(2, 990);
        x.need(3, 3);
        Due.text(x, "back d");
        int sand = x.grains(2);
        x.hours(1);
        is("all 99 come back, not need alone", x.grains(2), sand + 99);
        is("nothing is spilt", x.grains(0), 0);
    }

    // ---- head 2, (3): ends

    static void t2_endsIfDoneOfAllIsTheirNeed() {
        SandPicture x = calmWith(10, 0, 1, 2, 3, 4, 5);
        for (int t = 0; t < 6; t++) {
            x.need(t, 10);
        }
        x.hours(1);
        is("one more, not six", x.grains(7), 1);
    }

    static void t2_noEndIfOneGrainLacksOnOneTable() {
        for (int lacking = 0; lacking < 6; lacking++) {
            SandPicture x = calmWith(10, 0, 1, 2, 3, 4, 5);
            for (int t = 0; t < 6; t++) {
                x.need(t, t == lacking ? 11 : 10);
            }
            is("wiped", x.hours(1), 5);
            is("no end without " + lacking, x.grains(7), 0);
        }
    }

    static void t2_endsIfMoreIsDoneThanNeed() {
        SandPicture x = calmWith(10, 0, 1, 2, 3, 4, 5);
        x.hours(1);
        for (int t = 0; t < 6; t++) {
            x.need(t, 1 + t);
        }
        is("wiped", x.hours(1), 6);
        is("an end", x.grains(7), 1);
    }

    static void t2_noEndIfAllAreWipedOneBehindTheOther() {
        SandPicture x = calmWith(10, 0);
        for (int t = 0; t < 6; t++) {
            x.need(t, 10);
            x.set(0, 2, t);
            is("wiped", x.hours(1), 1);
        }
        is("no end", x.grains(7), 0);
    }

    // ---- head 2, (4): wiping

    static void t2_wipedFromNeedOn() {
        for (int need = 9; need <= 11; need++) {
            SandPicture x = calmWith(10, 0);
            x.hours(1);
            x.set(0, 2, 1);
            x.need(0, need);
            is("10 done, need " + need, x.hours(1), need <= 10 ? 1 : 0);
            is("done", x.table(0, 1), need <= 10 ? 0 : 10);
        }
    }

    private static SandPicture wipedBy(String back) {
        SandPicture x = calmWith(10, 0);
        x.need(0, 10);
        is("[" + back + "]", Due.text(x, "back " + back), 0);
        x.hours(1);
        return x;
    }

    static void t2_withoutATextAllOfDoneComesBack() {
        SandPicture x = calmWith(10, 0);
        x.need(0, 10);
        x.hours(1);
        is("sand", x.grains(2), 1000);
        is("spilt", x.grains(0), 0);
    }

    static void t2_whatBackGivesIsHeldWithin0() {
        String[] texts = {"0", "0-1", "(0-2048*2048)*512", "1"};
        int[] back = {0, 0, 0, 1};
        for (int i = 0; i < texts.length; i++) {
            SandPicture x = wipedBy(texts[i]);
            is("sand", x.grains(2), 990 + back[i]);
            is("the rest is spilt", x.grains(0), 10 - back[i]);
        }
    }

    static void t2_whatBackGivesIsHeldWithinDone() {
        String[] texts = {"9", "10", "11", "d", "d+1", "(0-2048*2048)*512-1"};
        int[] back = {9, 10, 10, 10, 10, 10};
        for (int i = 0; i < texts.length; i++) {
            SandPicture x = wipedBy(texts[i]);
            is("sand", x.grains(2), 990 + back[i]);
            is("the rest is spilt", x.grains(0), 10 - back[i]);
        }
    }

    static void t2_aRiverIsFullAt99999() {
        for (int room = 0; room <= 12; room++) {
            SandPicture x = calmWith(10, 0);
            x.hours(1);
            x.set(0, 2, 1);
            x.need(0, 10);
            x.river(0, 99999 - room);
            x.hours(1);
            is("sand, room " + room, x.grains(2), Math.min(99999, 99999 - room + 10));
            is("spilt, room " + room, x.grains(0), Math.max(0, 10 - room));
        }
    }

    static void t2_whatIsAboveAndTheRestAreBothSpilt() {
        SandPicture x = calmWith(10, 0);
        Due.text(x, "back 6");
        x.hours(1);
        x.set(0, 2, 1);
        x.need(0, 10);
        x.river(0, 99997);
        x.hours(1);
        is("two come back", x.grains(2), 99999);
        is("four, and four above", x.grains(0), 8);
    }

    static void t2_twoTablesOfOneRiverFillIt() {
        SandPicture x = calmWith(10, 0, 3);
        x.hours(1);
        x.set(0, 2, 1);
        x.set(1, 2, 1);
        x.need(0, 10);
        x.need(3, 10);
        x.river(0, 99984);
        x.hours(1);
        is("full", x.grains(2), 99999);
        is("spilt", x.grains(0), 5);
    }

    static void t2_spiltIsMoreByEachWiping() {
        SandPicture x = calmWith(10, 0, 1);
        Due.text(x, "back d-3");
        x.need(0, 10);
        x.need(1, 10);
        x.hours(1);
        is("three of each", x.grains(0), 6);
        x.hours(1);
        is("and again", x.grains(0), 12);
    }

    static void t2_wIsWipedAheadOfThisOne() {
        SandPicture x = calmWith(10, 0);
        x.need(0, 10);
        Due.text(x, "back w");
        x.hours(1);
        is("0 the first time", x.grains(2), 990);
        x.hours(1);
        is("1 the second time", x.grains(2), 981);
    }

    static void t2_doneAndFaultsAre0WhateverComesBack() {
        SandPicture x = calm();
        x.monk(GUEST, 9, 0);
        x.need(0, 9);
        Due.text(x, "back 0");
        x.hours(1);
        is("done", x.table(0, 1), 0);
        is("faults", x.table(0, 2), 0);
        is("wiped", x.table(0, 3), 1);
        is("the others are not", x.grains(6), 1);
    }

    // ---- promise 14

    static void p14_n() {
        range("n", 1, 100, (x, v) -> x.hours(v));
    }

    static void p14_oneHour() {
        SandPicture x = calm();
        x.hours(1);
        is("the hour", x.count(1), 1);
        x.hours(100);
        is("the hour", x.count(1), 101);
    }

    static void p14_nHoursAreOneBehindTheOther() {
        SandPicture many = Twins.rich();
        SandPicture single = Twins.rich();
        int wiped = 0;
        for (int i = 0; i < 20; i++) {
            wiped += single.hours(1);
        }
        is("wiped in them", many.hours(20), wiped);
        is("z", many.count(7), single.count(7));
        is("spilt", many.grains(0), single.grains(0));
    }

    static void p14_wipedInThemNotBefore() {
        SandPicture x = calmWith(10, 0);
        x.need(0, 10);
        is("five", x.hours(5), 5);
        is("three more", x.hours(3), 3);
        is("of all", x.grains(6), 8);
    }

    static void p14_noMoreThanUpTo9999() {
        for (int left = 1; left <= 3; left++) {
            SandPicture x = calmWith(10, 0);
            x.need(0, 10);
            passTo(x, 9999 - left);
            int[] z = {x.count(7)};
            is("wiped", x.hours(3), Math.min(3, left));
            is("the hour", x.count(1), 9999);
            for (int i = 0; i < 2 * left; i++) {
                drawn(z);
            }
            is("draws of so many", x.count(7), z[0]);
        }
    }

    static void p14_at9999NoneAndNothingChanges() {
        SandPicture one = calmWith(10, 0);
        SandPicture other = calmWith(10, 0);
        passTo(one, 9999);
        passTo(other, 9999);
        is("none", one.hours(100), 0);
        is("none", one.hours(1), 0);
        is("bad is ahead of that", one.hours(101), BAD);
        is("the hour", one.count(1), 9999);
        alike("at 9999", one, other);
    }

    static void p14_at9999AllElseGoesOn() {
        SandPicture x = calmWith(10, 0);
        passTo(x, 9999);
        is("a monk", x.monk(0, 5, 0), 1);
        is("deal", x.deal(2), 2);
        is("need", x.need(0, 5), 100);
        is("sneeze", x.sneeze(0), x.grains(0));
        is("keep", x.keep(), 4);
    }

    // ---- promises 15, 16

    static void p15_what() {
        range("what", 0, 7, (x, v) -> x.grains(v));
    }

    static void p15_onlyTells() {
        for (int what = 0; what < 8; what++) {
            int asked = what;
            onlyTells("grains " + what, x -> x.grains(asked));
        }
    }

    static void p15_ofAllSixTables() {
        SandPicture x = calm();
        for (int t = 0; t < 6; t++) {
            x.monk(GUEST, 1 + t, t);
        }
        x.hours(1);
        is("done", x.grains(1), 21);
        is("faults", x.grains(5), 6);
        is("sand 0", x.grains(2), 1000 - 1 - 4);
        is("sand 1", x.grains(3), 1000 - 2 - 5);
        is("sand 2", x.grains(4), 1000 - 3 - 6);
        for (int t = 0; t < 6; t++) {
            x.need(t, 1);
        }
        x.hours(1);
        is("wiped", x.grains(6), 6);
        is("ends", x.grains(7), 1);
        is("none is done", x.grains(1), 0);
        is("no faults", x.grains(5), 0);
    }

    static void p16_table() {
        range("table", 0, 5, (x, v) -> x.sneeze(v));
    }

    static void p16_anEmptyTable() {
        SandPicture one = Twins.rich();
        SandPicture other = Twins.rich();
        one.sneeze(3);
        other.sneeze(3);
        is("none", one.sneeze(3), 0);
        alike("none", one, other);
    }

    static void p16_faultsWipedAndSandStay() {
        SandPicture x = calm();
        x.monk(GUEST, 9, 0);
        x.need(0, 9);
        x.hours(1);
        x.need(0, 99);
        x.hours(2);
        is("how much it was", x.sneeze(0), 18);
        is("done", x.table(0, 1), 0);
        is("faults", x.table(0, 2), 2);
        is("wiped", x.table(0, 3), 1);
        is("sand", x.grains(2), 982);
        is("spilt", x.grains(0), 18);
    }

    static void p16_aTableAboveItsNeedIsNotWiped() {
        SandPicture x = calmWith(10, 0);
        x.hours(1);
        x.need(0, 5);
        is("all of it", x.sneeze(0), 10);
        x.river(0, 0);
        is("nothing to wipe", x.hours(1), 0);
    }
}
