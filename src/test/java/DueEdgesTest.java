/** Promises 16 to 20, sentence by sentence: each end of a range, the empty and the full case, each refused call. */
public final class DueEdgesTest {
    private static final int REPLAN = SkyloadBureau.REPLAN;
    private static final int CANCEL = SkyloadBureau.CANCEL;
    private static final int GO = SkyloadBureau.GO;
    private static final int NONE = SkyloadBureau.NONE;

    public static void main(String[] args) {
        Edges.runAll(DueEdgesTest.class);
    }

    /** Flights over sector 0, regulated there from 100 to 160 with slots every ten minutes. */
    private static SkyloadBureau tens(int... minutes) {
        SkyloadBureau bureau = Made.over(minutes);
        bureau.regulation(0, 100, 160, 6);
        return bureau;
    }

    private static void penalties(SkyloadBureau bureau, int... due) {
        for (int flight = 0; flight < due.length; flight++) {
            Edges.equal("penalty of " + flight, bureau.penalty(flight, 0), due[flight]);
        }
    }

    private static void dues(SkyloadBureau bureau, int... due) {
        int all = 0;
        for (int flight = 0; flight < due.length; flight++) {
            Edges.equal("due of " + flight, bureau.due(flight), due[flight]);
            Edges.equal("dueAnew of " + flight, bureau.dueAnew(flight), due[flight]);
            all += due[flight];
        }
        Edges.equal("allDue", bureau.allDue(), all);
    }

    /** By one regulation, so that the due is the penalty, or 0. */
    private static void penaltiesAndDues(SkyloadBureau bureau, int... due) {
        penalties(bureau, due);
        int[] dues = new int[due.length];
        for (int i = 0; i < due.length; i++) {
            dues[i] = Math.max(0, due[i]);
        }
        dues(bureau, dues);
    }

    // ---- promise 16: penalty

    private static void p16_flightIs0ToTheLast() {
        Edges.numbers(0, Made.LAST_FLIGHT, Made::busy, (bureau, flight) -> bureau.penalty(flight, Made.RULING));
    }

    private static void p16_regulationIs0ToTheLast() {
        Edges.numbers(0, Made.LAST_REGULATION, Made::busy,
            (bureau, regulation) -> bureau.penalty(Made.FIRST, regulation));
        Edges.numbers(0, 5, Made::fullOfRegulations, (bureau, regulation) -> bureau.penalty(0, regulation));
    }

    private static void p16_isNoneIfItDoesNotEnter() {
        SkyloadBureau bureau = Made.busy();
        Edges.equal("another sector", bureau.penalty(Made.FREE, Made.RULING), NONE);
        SkyloadBureau without = Made.planned(100);
        without.regulation(0, 0, 1440, 0);
        Edges.equal("no entries", without.penalty(0, 0), NONE);
    }

    private static void p16_isNoneOutsideTheRegulation() {
        penaltiesAndDues(tens(99, 100, 159, 160), NONE, 0, 0, NONE);
    }

    private static void p16_isByThePlannedTimeOverAndNotThatOfDeparture() {
        SkyloadBureau bureau = Made.planned(80, 90, 150);
        for (int i = 0; i < 3; i++) {
            bureau.entry(i, 0, 10, 5);
        }
        bureau.regulation(0, 100, 160, 0);
        penaltiesAndDues(bureau, NONE, 60, NONE);
    }

    private static void p16_isNoneIfItIsExempt() {
        SkyloadBureau bureau = tens(100);
        bureau.exempt(0, true);
        penaltiesAndDues(bureau, NONE);
        bureau.exempt(0, false);
        penaltiesAndDues(bureau, 0);
    }

    private static void p16_isNoneIfItIsGone() {
        SkyloadBureau bureau = tens(100);
        bureau.message(0, 1, GO, 100);
        penaltiesAndDues(bureau, NONE);
    }

    private static void p16_isNoneIfItIsCancelled() {
        SkyloadBureau bureau = tens(100);
        bureau.message(0, 1, CANCEL, 0);
        penaltiesAndDues(bureau, NONE);
    }

    private static void p16_isNoneIfThatIsEnded() {
        SkyloadBureau bureau = tens(100, 100);
        penaltiesAndDues(bureau, 0, 10);
        bureau.end(0);
        penaltiesAndDues(bureau, NONE, NONE);
    }

    private static void p16_is0WithinAFreeSlot() {
        penaltiesAndDues(tens(100), 0);
        penaltiesAndDues(tens(109), 0);
        penaltiesAndDues(tens(110), 0);
        penaltiesAndDues(tens(159), 0);
    }

    private static void p16_aSlotThatEndsAtTheTimeIsNotTaken() {
        penaltiesAndDues(tens(110, 110), 0, 10);
        penaltiesAndDues(tens(109, 109), 0, 1);
    }

    private static void p16_theTargetIsTheGreaterOne() {
        penaltiesAndDues(tens(105, 115), 0, 0);
        penaltiesAndDues(tens(105, 106, 115), 0, 4, 5);
    }

    private static void p16_withoutASlotTheTargetIsTheEnd() {
        penaltiesAndDues(tens(150, 150, 151, 159), 0, 10, 9, 1);
        SkyloadBureau bureau = tens(100, 159);
        bureau.rate(0, 0);
        penaltiesAndDues(bureau, 60, 1);
    }

    private static void p16_theLastSlotEndsWhereTheRegulationEnds() {
        SkyloadBureau bureau = Made.over(159, 159);
        bureau.regulation(0, 100, 160, 1);
        penaltiesAndDues(bureau, 0, 1);
        SkyloadBureau cut = Made.over(164, 164);
        cut.regulation(0, 100, 165, 6);
        penaltiesAndDues(cut, 0, 1);
    }

    private static void p16_aSlotEndsWhereTheNextOneBegins() {
        SkyloadBureau bureau = Made.over(107, 107, 108);
        bureau.regulation(0, 100, 160, 7);
        penaltiesAndDues(bureau, 0, 1, 9);
    }

    private static void p16_likeTimesAreServedByNumbers() {
        penaltiesAndDues(tens(105, 105, 105), 0, 5, 15);
        penaltiesAndDues(tens(105, 104, 105), 5, 0, 15);
    }

    private static void p16_listedOnesAreServedByTimesAheadOfNumbers() {
        penaltiesAndDues(tens(102, 101, 100), 18, 9, 0);
    }

    private static void p16_fixedOnesTakeSlotsAheadOfEarlierListedOnes() {
        SkyloadBureau exempt = tens(100, 109);
        exempt.exempt(1, true);
        penaltiesAndDues(exempt, 10, NONE);
        SkyloadBureau gone = tens(100, 500);
        gone.message(1, 1, GO, 109);
        penaltiesAndDues(gone, 10, NONE);
    }

    private static void p16_fixedOnesTakeTheFirstSlotThatEndsBehindTheirTime() {
        SkyloadBureau bureau = tens(100, 110, 110);
        bureau.message(2, 1, GO, 110);
        penaltiesAndDues(bureau, 0, 10, NONE);
        SkyloadBureau earlier = tens(100, 110, 110);
        earlier.message(2, 1, GO, 109);
        penaltiesAndDues(earlier, 10, 10, NONE);
    }

    private static void p16_fixedOnesWithoutASlotTakeNone() {
        SkyloadBureau bureau = tens(159, 159, 100, 150);
        bureau.exempt(0, true);
        bureau.exempt(1, true);
        penaltiesAndDues(bureau, NONE, NONE, 0, 10);
    }

    private static void p16_fixedOnesOutsideTakeNone() {
        SkyloadBureau bureau = tens(100, 99, 160, 100);
        bureau.exempt(1, true);
        bureau.exempt(2, true);
        bureau.message(3, 1, GO, 99);
        penaltiesAndDues(bureau, 0, NONE, NONE, NONE);
    }

    private static void p16_fixedOnesTakeFreeOnesOfEachOther() {
        SkyloadBureau bureau = tens(100, 119, 119, 101);
        bureau.exempt(1, true);
        bureau.message(2, 1, GO, 119);
        penaltiesAndDues(bureau, 0, NONE, NONE, 29);
    }

    private static void p16_allSlotsTakenByFixedOnes() {
        SkyloadBureau bureau = tens(100, 110, 120, 130, 140, 150, 100, 159);
        for (int i = 0; i < 6; i++) {
            bureau.exempt(i, true);
        }
        penaltiesAndDues(bureau, NONE, NONE, NONE, NONE, NONE, NONE, 60, 1);
    }

    private static void p16_all24InOneLine() {
        int[] minutes = new int[24];
        int[] due = new int[24];
        for (int i = 0; i < 24; i++) {
            minutes[i] = 123 - i;
            due[i] = 100 + 60 * (23 - i) / 7 - minutes[i];
        }
        SkyloadBureau bureau = Made.over(minutes);
        bureau.regulation(0, 100, 1440, 7);
        penaltiesAndDues(bureau, due);
    }

    private static void p16_theGreatestIsAWholeDay() {
        SkyloadBureau bureau = Made.over(0);
        bureau.regulation(0, 0, 1440, 0);
        penaltiesAndDues(bureau, 1440);
    }

    private static void p16_isAsItWouldBeDealtNow() {
        SkyloadBureau bureau = tens(100, 100);
        bureau.deal(true);
        penaltiesAndDues(bureau, 0, 10);
        bureau.message(0, 1, REPLAN, 99);
        penaltiesAndDues(bureau, NONE, 0);
        Edges.equal("its slot time still", bureau.flightIs(1, 2), 110);
    }

    // ---- promises 17 and 18: due, dueAnew

    private static void p17_flightIs0ToTheLast() {
        Edges.numbers(0, Made.LAST_FLIGHT, Made::busy, (bureau, flight) -> bureau.due(flight));
        Edges.numbers(0, 23, Made::fullOfFlights, (bureau, flight) -> bureau.due(flight));
    }

    private static void p18_flightIs0ToTheLast() {
        Edges.numbers(0, Made.LAST_FLIGHT, Made::busy, (bureau, flight) -> bureau.dueAnew(flight));
        Edges.numbers(0, 23, Made::fullOfFlights, (bureau, flight) -> bureau.dueAnew(flight));
    }

    private static void p17_p18_is0WithoutRegulations() {
        dues(Made.over(0, 1439), 0, 0);
    }

    private static void p17_p18_is0IfItIsListedNowhere() {
        SkyloadBureau bureau = Made.over(100);
        for (int sector = 1; sector < 6; sector++) {
            bureau.regulation(sector, 0, 1440, 0);
        }
        bureau.regulation(0, 101, 1440, 0);
        dues(bureau, 0);
    }

    private static void p17_p18_isTheGreatestOfSix() {
        for (int greatest = 0; greatest < 6; greatest++) {
            SkyloadBureau bureau = Made.over(100);
            for (int i = 0; i < 6; i++) {
                bureau.regulation(0, 100, i == greatest ? 140 : 110 + i, 0);
            }
            dues(bureau, 40);
            bureau.end(greatest);
            dues(bureau, greatest == 5 ? 14 : 15);
        }
    }

    private static void p17_p18_isTheGreatestOverFiveSectors() {
        SkyloadBureau bureau = Made.fullOfEntries();
        int[] ends = {110, 130, 150, 142, 145};
        for (int sector = 0; sector < 5; sector++) {
            bureau.regulation(sector, 100, ends[sector], 0);
        }
        dues(bureau, 30);
        bureau.end(2);
        dues(bureau, 20);
    }

    private static void p17_p18_eachRegulationIsDealtByItself() {
        SkyloadBureau bureau = tens(100, 100, 100);
        bureau.regulation(0, 100, 160, 6);
        bureau.regulation(0, 100, 160, 12);
        dues(bureau, 0, 10, 20);
    }

    private static void p17_p18_goesThroughSlotsThatNobodyCanTake() {
        SkyloadBureau bureau = tens(130, 131, 158, 158);
        bureau.exempt(1, true);
        dues(bureau, 10, 0, 0, 2);
    }

    // ---- promise 19: allDue

    private static void p19_is0WithoutFlightsOrRegulations() {
        Edges.equal("neither", new SkyloadBureau().allDue(), 0);
        Edges.equal("no flights", Made.regulated(0, 1440, 0).allDue(), 0);
        Edges.equal("no regulations", Made.fullOfFlights().allDue(), 0);
    }

    private static void p19_addsAll24() {
        int[] minutes = new int[24];
        for (int i = 0; i < 24; i++) {
            minutes[i] = 0;
        }
        SkyloadBureau bureau = Made.over(minutes);
        bureau.regulation(0, 0, 1440, 0);
        Edges.equal("all of a whole day", bureau.allDue(), 24 * 1440);
    }

    private static void p19_addsTheDuesOfWaitingOnesAlone() {
        SkyloadBureau bureau = tens(100, 100, 100, 100);
        bureau.rate(0, 0);
        Edges.equal("four", bureau.allDue(), 240);
        bureau.exempt(0, true);
        Edges.equal("but the exempt one", bureau.allDue(), 180);
        bureau.message(1, 1, GO, 100);
        Edges.equal("but the gone one", bureau.allDue(), 120);
        bureau.message(2, 1, CANCEL, 0);
        Edges.equal("but the cancelled one", bureau.allDue(), 60);
        bureau.end(0);
        Edges.equal("none", bureau.allDue(), 0);
    }

    private static void p19_addsEachFlightJustOnce() {
        SkyloadBureau bureau = Made.over(100);
        bureau.regulation(0, 100, 120, 0);
        bureau.regulation(0, 100, 130, 0);
        Edges.equal("the greatest alone", bureau.allDue(), 30);
    }

    // ---- promise 20: would

    private static void p20_sectorIs0To5() {
        Edges.numbers(0, 5, Made::busy, (bureau, sector) -> bureau.would(sector, 600, 660, 6));
    }

    private static void p20_fromIs0To1439() {
        Edges.arguments(0, 1439, Made::busy, (bureau, from) -> bureau.would(0, from, 1440, 6));
    }

    private static void p20_toIsAboveFromTo1440() {
        Edges.arguments(1, 1440, Made::busy, (bureau, to) -> bureau.would(0, 0, to, 6));
        Edges.arguments(601, 1440, Made::busy, (bureau, to) -> bureau.would(0, 600, to, 6));
        Edges.arguments(1440, 1440, Made::busy, (bureau, to) -> bureau.would(0, 1439, to, 6));
    }

    private static void p20_from1440IsRefusedWithAnyEnd() {
        Edges.badArgument("to 1440", Made::busy, bureau -> bureau.would(0, 1440, 1440, 6));
        Edges.badArgument("to 1441", Made::busy, bureau -> bureau.would(0, 1440, 1441, 6));
        Edges.badArgument("from and to far outside", Made::busy,
            bureau -> bureau.would(0, Integer.MAX_VALUE, Integer.MIN_VALUE, 6));
    }

    private static void p20_rateIs0To60() {
        Edges.arguments(0, 60, Made::busy, (bureau, rate) -> bureau.would(0, 600, 660, rate));
    }

    private static void p20_sectorComesAheadOfArguments() {
        Edges.noSuch("from -1", Made::busy, bureau -> bureau.would(6, -1, 1, 0));
        Edges.noSuch("to 1441", Made::busy, bureau -> bureau.would(-1, 0, 1441, 0));
        Edges.noSuch("rate 61", Made::busy, bureau -> bureau.would(6, 0, 1, 61));
    }

    private static void p20_argumentsAreRefusedWithSixToo() {
        Edges.badArgument("rate 61", Made::fullOfRegulations, bureau -> bureau.would(0, 0, 1440, 61));
        Edges.noSuch("sector 6", Made::fullOfRegulations, bureau -> bureau.would(6, 0, 1440, 0));
    }

    private static void p20_answersAlsoIfThereAreSix() {
        SkyloadBureau bureau = Made.fullOfRegulations();
        Edges.equal("as it is", bureau.allDue(), 100);
        Edges.equal("with a seventh", bureau.would(0, 700, 900, 0), 200);
        Edges.equal("with a seventh that is less", bureau.would(0, 700, 750, 0), 100);
    }

    private static void p20_nothingChanges() {
        SkyloadBureau bureau = Made.busy();
        bureau.would(0, 0, 1440, 0);
        bureau.would(1, 600, 660, 7);
        Edges.unchanged("would", bureau, Made.busy());
        SkyloadBureau full = Made.fullOfRegulations();
        full.would(0, 0, 1440, 0);
        Edges.unchanged("would with six", full, Made.fullOfRegulations());
    }

    private static void p20_leavesNoTraceInTheNextDeal() {
        SkyloadBureau bureau = Made.over(700);
        bureau.would(0, 700, 800, 0);
        Edges.equal("allDue", bureau.allDue(), 0);
        Edges.equal("deal", bureau.deal(true), 0);
        Edges.equal("the first regulation", bureau.regulation(0, 700, 710, 0), 0);
        bureau.would(0, 700, 800, 0);
        bureau.deal(true);
        Edges.equal("slot time", bureau.flightIs(0, 2), 710);
        Edges.equal("ruling", bureau.flightIs(0, 3), 0);
    }

    private static void p20_isAsIfItWereTold() {
        int[] rates = {0, 1, 7, 59, 60};
        for (int rate : rates) {
            SkyloadBureau asked = Made.busy();
            SkyloadBureau told = Made.busy();
            told.regulation(1, 605, 640, rate);
            Edges.equal("rate " + rate, asked.would(1, 605, 640, rate), told.allDue());
        }
    }

    private static void p20_is0WithoutFlights() {
        Edges.equal("no flights", new SkyloadBureau().would(0, 0, 1440, 0), 0);
        Edges.equal("no entries", Made.fullOfFlights().would(0, 0, 1440, 0), 0);
    }

    private static void p20_holdsFromItsFirstMinuteAheadOfItsEnd() {
        SkyloadBureau bureau = Made.over(599, 600, 659, 660);
        Edges.equal("rate 0", bureau.would(0, 600, 660, 0), 61);
        Edges.equal("the last minute of the day", bureau.would(0, 1439, 1440, 0), 0);
        Edges.equal("the whole day", bureau.would(0, 0, 1440, 0), 841 + 840 + 781 + 780);
    }

    private static void p20_fixedOnesTakeItsSlotsToo() {
        SkyloadBureau bureau = Made.over(100, 105, 109);
        Edges.equal("none fixed", bureau.would(0, 100, 160, 6), 5 + 11);
        bureau.exempt(1, true);
        bureau.message(2, 1, GO, 110);
        Edges.equal("two fixed", bureau.would(0, 100, 160, 6), 20);
    }
}
