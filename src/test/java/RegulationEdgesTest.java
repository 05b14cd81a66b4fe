/** Promises 11 to 15, sentence by sentence: each end of a range, the empty and the full case, each refused call. */
public final class RegulationEdgesTest {
    private static final int REPLAN = SkyloadBureau.REPLAN;
    private static final int CANCEL = SkyloadBureau.CANCEL;
    private static final int GO = SkyloadBureau.GO;
    private static final int NONE = SkyloadBureau.NONE;

    // What regulationIs tells.
    private static final int SLOTS = 0;
    private static final int FREE_SLOTS = 1;
    private static final int FIXED = 2;
    private static final int LISTED = 3;
    private static final int WITHOUT_SLOT = 4;
    private static final int RATE = 5;
    private static final int CHARGED = 6;

    public static void main(String[] args) {
        Edges.runAll(RegulationEdgesTest.class);
    }

    private static void told(SkyloadBureau bureau, int regulation, int... due) {
        for (int what = 0; what < due.length; what++) {
            Edges.equal("regulationIs(" + regulation + ", " + what + ")", bureau.regulationIs(regulation, what),
                due[what]);
        }
    }

    /** Flights over sector 0, regulated there from 100 to 160 with slots every ten minutes. */
    private static SkyloadBureau tens(int... minutes) {
        SkyloadBureau bureau = Made.over(minutes);
        bureau.regulation(0, 100, 160, 6);
        return bureau;
    }

    private static SkyloadBureau everyFlightAt(int minute, int from, int to, int rate) {
        int[] minutes = new int[24];
        for (int i = 0; i < minutes.length; i++) {
            minutes[i] = minute;
        }
        SkyloadBureau bureau = Made.over(minutes);
        bureau.regulation(0, from, to, rate);
        return bureau;
    }

    // ---- promise 11: regulation

    private static void p11_sectorIs0To5() {
        Edges.numbers(0, 5, Made::busy, (bureau, sector) -> bureau.regulation(sector, 600, 660, 6));
    }

    private static void p11_fromIs0To1439() {
        Edges.arguments(0, 1439, Made::busy, (bureau, from) -> bureau.regulation(0, from, 1440, 6));
    }

    private static void p11_toIsAboveFromTo1440() {
        Edges.arguments(1, 1440, Made::busy, (bureau, to) -> bureau.regulation(0, 0, to, 6));
        Edges.arguments(601, 1440, Made::busy, (bureau, to) -> bureau.regulation(0, 600, to, 6));
        Edges.arguments(1440, 1440, Made::busy, (bureau, to) -> bureau.regulation(0, 1439, to, 6));
    }

    private static void p11_from1440IsRefusedWithAnyEnd() {
        Edges.badArgument("to 1440", Made::busy, bureau -> bureau.regulation(0, 1440, 1440, 6));
        Edges.badArgument("to 1441", Made::busy, bureau -> bureau.regulation(0, 1440, 1441, 6));
        Edges.badArgument("from and to far outside", Made::busy,
            bureau -> bureau.regulation(0, Integer.MAX_VALUE, Integer.MIN_VALUE, 6));
    }

    private static void p11_rateIs0To60() {
        Edges.arguments(0, 60, Made::busy, (bureau, rate) -> bureau.regulation(0, 600, 660, rate));
    }

    private static void p11_rateIsKeptAtBothEnds() {
        Edges.equal("0", Made.regulated(600, 660, 0).regulationIs(0, RATE), 0);
        Edges.equal("60", Made.regulated(600, 660, 60).regulationIs(0, RATE), 60);
    }

    private static void p11_returnsNumbersFrom0To5() {
        SkyloadBureau bureau = new SkyloadBureau();
        for (int i = 0; i < 6; i++) {
            Edges.equal("regulation", bureau.regulation(5 - i, 1439, 1440, 0), i);
        }
    }

    private static void p11_aSeventhIsRefused() {
        Edges.badState("a seventh", Made::fullOfRegulations, bureau -> bureau.regulation(0, 0, 1440, 0));
        Edges.equal("the sixth", Made.fullOfRegulations().regulationIs(5, RATE), 50);
    }

    private static void p11_endedOnesCountAmongTheSix() {
        Edges.badState("a seventh", RegulationEdgesTest::fullOfEndedRegulations,
            bureau -> bureau.regulation(0, 0, 1440, 0));
    }

    private static SkyloadBureau fullOfEndedRegulations() {
        SkyloadBureau bureau = Made.fullOfRegulations();
        for (int i = 0; i < 6; i++) {
            bureau.end(i);
        }
        return bureau;
    }

    private static void p11_sectorComesAheadOfArguments() {
        Edges.noSuch("from -1", Made::empty, bureau -> bureau.regulation(6, -1, 1, 0));
        Edges.noSuch("to 1441", Made::empty, bureau -> bureau.regulation(-1, 0, 1441, 0));
        Edges.noSuch("rate 61", Made::empty, bureau -> bureau.regulation(6, 0, 1, 61));
    }

    private static void p11_sectorComesAheadOfTheSix() {
        Edges.noSuch("sector 6", Made::fullOfRegulations, bureau -> bureau.regulation(6, 0, 1, 0));
        Edges.noSuch("sector -1", Made::fullOfRegulations, bureau -> bureau.regulation(-1, 0, 1, 0));
    }

    private static void p11_argumentsComeAheadOfTheSix() {
        Edges.badArgument("from 1440", Made::fullOfRegulations, bureau -> bureau.regulation(0, 1440, 1440, 0));
        Edges.badArgument("to as from", Made::fullOfRegulations, bureau -> bureau.regulation(0, 5, 5, 0));
        Edges.badArgument("rate -1", Made::fullOfRegulations, bureau -> bureau.regulation(0, 0, 1, -1));
    }

    private static void p11_isOfItsSectorAlone() {
        for (int sector = 0; sector < 6; sector++) {
            SkyloadBureau bureau = new SkyloadBureau();
            bureau.regulation(sector, 0, 1440, 0);
            for (int entered = 0; entered < 6; entered++) {
                bureau.flight(0, 600);
                bureau.entry(entered, entered, 0, 1);
                Edges.equal("due over " + entered, bureau.due(entered), entered == sector ? 840 : 0);
            }
        }
    }

    private static void p11_holdsFromItsFirstMinuteOn() {
        SkyloadBureau bureau = Made.over(599, 600);
        bureau.regulation(0, 600, 660, 0);
        Edges.equal("a minute ahead", bureau.due(0), 0);
        Edges.equal("that minute", bureau.due(1), 60);
    }

    private static void p11_holdsAheadOfItsEnd() {
        SkyloadBureau bureau = Made.over(659, 660);
        bureau.regulation(0, 600, 660, 0);
        Edges.equal("the last minute", bureau.due(0), 1);
        Edges.equal("the end itself", bureau.due(1), 0);
    }

    private static void p11_theShortestAndTheLongest() {
        SkyloadBureau bureau = Made.over(0, 1438, 1439);
        Edges.equal("the day's last minute", bureau.regulation(0, 1439, 1440, 0), 0);
        Edges.equal("ahead of that", bureau.due(1), 0);
        Edges.equal("within that", bureau.due(2), 1);
        Edges.equal("the whole day", bureau.regulation(0, 0, 1440, 0), 1);
        Edges.equal("its first minute", bureau.due(0), 1440);
        Edges.equal("its last minute but one", bureau.due(1), 2);
    }

    private static void p11_givesNoSlotTimesByItself() {
        SkyloadBureau bureau = Made.over(600);
        bureau.regulation(0, 600, 660, 0);
        Edges.equal("slot time", bureau.flightIs(0, 2), NONE);
        Edges.equal("time over", bureau.over(0, 0), 600);
    }

    // ---- promise 12: rate

    private static void p12_regulationIs0ToTheLast() {
        Edges.numbers(0, 5, Made::fullOfRegulations, (bureau, regulation) -> bureau.rate(regulation, 1));
        Edges.numbers(0, 0, () -> Made.regulated(0, 1, 0), (bureau, regulation) -> bureau.rate(regulation, 1));
    }

    private static void p12_rateIs0To60() {
        Edges.arguments(0, 60, Made::busy, (bureau, rate) -> bureau.rate(Made.RULING, rate));
    }

    private static void p12_returnsTheRateBefore() {
        SkyloadBureau bureau = Made.regulated(600, 660, 7);
        Edges.equal("as it was told first", bureau.rate(0, 60), 7);
        Edges.equal("the highest", bureau.rate(0, 0), 60);
        Edges.equal("the lowest", bureau.rate(0, 0), 0);
        Edges.equal("told the same again", bureau.rate(0, 8), 0);
        Edges.equal("its rate", bureau.regulationIs(0, RATE), 8);
    }

    private static void p12_anEndedOneIsRefused() {
        Edges.badState("another rate", Made::busy, bureau -> bureau.rate(Made.ENDED, 0));
        Edges.badState("its own rate", Made::busy, bureau -> bureau.rate(Made.ENDED, 60));
    }

    private static void p12_regulationComesAheadOfRate() {
        Edges.noSuch("rate 61", Made::busy, bureau -> bureau.rate(Made.LAST_REGULATION + 1, 61));
        Edges.noSuch("rate -1", Made::busy, bureau -> bureau.rate(-1, -1));
    }

    private static void p12_rateComesAheadOfTheEnd() {
        Edges.badArgument("rate 61", Made::busy, bureau -> bureau.rate(Made.ENDED, 61));
        Edges.badArgument("rate -1", Made::busy, bureau -> bureau.rate(Made.ENDED, -1));
    }

    private static void p12_changesTheDuesAtOnceButNoSlotTime() {
        SkyloadBureau bureau = tens(100, 100);
        bureau.deal(true);
        bureau.rate(0, 0);
        Edges.equal("due at the lowest rate", bureau.due(1), 60);
        Edges.equal("slot time", bureau.flightIs(1, 2), 110);
        bureau.rate(0, 60);
        Edges.equal("due at the highest rate", bureau.due(1), 1);
        Edges.equal("slot time still", bureau.flightIs(1, 2), 110);
    }

    private static void p12_isOfThatRegulationAlone() {
        SkyloadBureau bureau = Made.fullOfRegulations();
        bureau.rate(2, 33);
        for (int i = 0; i < 6; i++) {
            Edges.equal("rate of " + i, bureau.regulationIs(i, RATE), i == 2 ? 33 : 10 * i);
        }
    }

    // ---- promise 13: end

    private static void p13_regulationIs0ToTheLast() {
        Edges.numbers(0, 5, Made::fullOfRegulations, (bureau, regulation) -> bureau.end(regulation));
        Edges.numbers(0, 0, () -> Made.regulated(0, 1, 0), (bureau, regulation) -> bureau.end(regulation));
    }

    private static void p13_anEndedOneIsRefused() {
        Edges.badState("again", Made::busy, bureau -> bureau.end(Made.ENDED));
    }

    private static void p13_slotTimesStayTillTheNextDeal() {
        SkyloadBureau bureau = Made.busy();
        bureau.end(Made.RULING);
        Edges.equal("slot time", bureau.flightIs(Made.FIRST, 2), 610);
        Edges.equal("ruling", bureau.flightIs(Made.FIRST, 3), Made.RULING);
        Edges.equal("due", bureau.due(Made.SECOND), 10);
        bureau.end(Made.SHUT);
        Edges.equal("slot time without a due", bureau.flightIs(Made.FIRST, 2), 610);
        bureau.deal(false);
        Edges.equal("slot time, dealt", bureau.flightIs(Made.FIRST, 2), NONE);
        Edges.equal("ruling, dealt", bureau.flightIs(Made.FIRST, 3), NONE);
    }

    private static void p13_endsThatRegulationAlone() {
        SkyloadBureau bureau = Made.fullOfRegulations();
        bureau.end(1);
        for (int i = 0; i < 6; i++) {
            Edges.equal("slots of " + i, bureau.regulationIs(i, SLOTS) > 0 ? 1 : 0, i > 1 ? 1 : 0);
        }
        Edges.equal("the flight's due", bureau.due(0), 100);
    }

    // ---- promise 14: regulationIs

    private static void p14_regulationIs0ToTheLast() {
        Edges.numbers(0, 5, Made::fullOfRegulations, (bureau, regulation) -> bureau.regulationIs(regulation, 6));
        Edges.numbers(0, 0, () -> Made.regulated(0, 1, 0), (bureau, regulation) -> bureau.regulationIs(regulation, 0));
    }

    private static void p14_whatIs0To6() {
        Edges.arguments(0, 6, Made::busy, (bureau, what) -> bureau.regulationIs(Made.RULING, what));
        Edges.arguments(0, 6, Made::busy, (bureau, what) -> bureau.regulationIs(Made.ENDED, what));
    }

    private static void p14_regulationComesAheadOfWhat() {
        Edges.noSuch("what 7", Made::busy, bureau -> bureau.regulationIs(Made.LAST_REGULATION + 1, 7));
        Edges.noSuch("what -1", Made::busy, bureau -> bureau.regulationIs(-1, -1));
    }

    private static void p14_slotsOfTheRate0() {
        told(Made.regulated(0, 1440, 0), 0, 0, 0, 0, 0, 0, 0, 0);
    }

    private static void p14_slotsBeginAheadOfTheEnd() {
        Edges.equal("one minute, rate 1", Made.regulated(600, 601, 1).regulationIs(0, SLOTS), 1);
        Edges.equal("one minute, rate 60", Made.regulated(600, 601, 60).regulationIs(0, SLOTS), 1);
        Edges.equal("60 minutes, rate 1", Made.regulated(600, 660, 1).regulationIs(0, SLOTS), 1);
        Edges.equal("61 minutes, rate 1", Made.regulated(600, 661, 1).regulationIs(0, SLOTS), 2);
        Edges.equal("8 minutes, rate 7", Made.regulated(600, 608, 7).regulationIs(0, SLOTS), 1);
        Edges.equal("9 minutes, rate 7", Made.regulated(600, 609, 7).regulationIs(0, SLOTS), 2);
    }

    private static void p14_theFewestAndTheMostSlotsOfADay() {
        Edges.equal("rate 1", Made.regulated(0, 1440, 1).regulationIs(0, SLOTS), 24);
        Edges.equal("rate 59", Made.regulated(0, 1440, 59).regulationIs(0, SLOTS), 1416);
        Edges.equal("rate 60", Made.regulated(0, 1440, 60).regulationIs(0, SLOTS), 1440);
    }

    private static void p14_allSlotsAreFreeWithoutFlights() {
        told(Made.regulated(100, 160, 6), 0, 6, 6, 0, 0, 0, 6, 0);
    }

    private static void p14_noSlotIsFreeIfAllAreTaken() {
        told(tens(100, 100, 100, 100, 100, 100), 0, 6, 0, 0, 6, 0, 6, 0);
    }

    private static void p14_oneMoreThanTheSlotsGetsNone() {
        told(tens(100, 100, 100, 100, 100, 100, 100), 0, 6, 0, 0, 7, 1, 6, 0);
    }

    private static void p14_aLineWithoutASlotLeftLeavesEarlierOnesFree() {
        told(tens(150, 155, 159), 0, 6, 5, 0, 3, 2, 6, 0);
    }

    private static void p14_all24Listed() {
        told(everyFlightAt(100, 100, 160, 0), 0, 0, 0, 0, 24, 24, 0, 0);
        told(everyFlightAt(100, 100, 160, 6), 0, 6, 0, 0, 24, 18, 6, 0);
        told(everyFlightAt(100, 100, 160, 24), 0, 24, 0, 0, 24, 0, 24, 0);
        told(everyFlightAt(100, 100, 160, 60), 0, 60, 36, 0, 24, 0, 60, 0);
    }

    private static void p14_all24Fixed() {
        SkyloadBureau bureau = everyFlightAt(100, 100, 160, 6);
        for (int i = 0; i < 24; i++) {
            if (i % 2 == 0) {
                bureau.exempt(i, true);
            } else {
                bureau.message(i, 1, GO, 159);
            }
        }
        told(bureau, 0, 6, 0, 24, 0, 0, 6, 0);
        bureau.rate(0, 60);
        told(bureau, 0, 60, 47, 24, 0, 0, 60, 0);
    }

    private static void p14_fixedCountsThoseWithoutASlotToo() {
        SkyloadBureau bureau = tens(150, 155, 159);
        for (int i = 0; i < 3; i++) {
            bureau.exempt(i, true);
        }
        told(bureau, 0, 6, 5, 3, 0, 0, 6, 0);
        bureau.rate(0, 0);
        told(bureau, 0, 0, 0, 3, 0, 0, 0, 0);
    }

    private static void p14_anExemptOneIsFixedWithin() {
        SkyloadBureau bureau = tens(99, 100, 159, 160);
        int[] fixed = {0, 1, 2, 2};
        for (int i = 0; i < 4; i++) {
            bureau.exempt(i, true);
            Edges.equal("fixed up to " + i, bureau.regulationIs(0, FIXED), fixed[i]);
        }
    }

    private static void p14_aGoneOneIsFixedByTheTimeItWent() {
        int[] minutes = {99, 100, 159, 160};
        int[] fixed = {0, 1, 1, 0};
        for (int i = 0; i < minutes.length; i++) {
            SkyloadBureau within = tens(130);
            within.message(0, 1, GO, minutes[i]);
            Edges.equal("planned within, gone at " + minutes[i], within.regulationIs(0, FIXED), fixed[i]);
            SkyloadBureau outside = tens(500);
            outside.message(0, 1, GO, minutes[i]);
            Edges.equal("planned outside, gone at " + minutes[i], outside.regulationIs(0, FIXED), fixed[i]);
        }
    }

    private static void p14_anExemptOneThatIsGoneIsFixedByTheTimeItWent() {
        SkyloadBureau bureau = tens(130);
        bureau.exempt(0, true);
        bureau.message(0, 1, GO, 160);
        told(bureau, 0, 6, 6, 0, 0, 0, 6, 0);
    }

    private static void p14_aListedOneIsPlannedWithin() {
        int[] minutes = {99, 100, 159, 160};
        int[] listed = {0, 1, 1, 0};
        for (int i = 0; i < minutes.length; i++) {
            Edges.equal("planned at " + minutes[i], tens(minutes[i]).regulationIs(0, LISTED), listed[i]);
        }
    }

    private static void p14_aListedOneStaysSoWhateverItsSlotTime() {
        SkyloadBureau bureau = tens(159, 159);
        bureau.deal(true);
        Edges.equal("slot time at the end", bureau.flightIs(1, 2), 160);
        told(bureau, 0, 6, 5, 0, 2, 1, 6, 0);
    }

    private static void p14_aCancelledOneIsNeitherFixedNorListed() {
        SkyloadBureau bureau = tens(130, 130);
        bureau.message(0, 1, CANCEL, 0);
        bureau.exempt(1, true);
        bureau.message(1, 1, CANCEL, 0);
        told(bureau, 0, 6, 6, 0, 0, 0, 6, 0);
    }

    private static void p14_oneThatDoesNotEnterIsNeither() {
        SkyloadBureau bureau = Made.planned(130, 130, 130);
        bureau.exempt(1, true);
        bureau.message(2, 1, GO, 130);
        bureau.regulation(0, 0, 1440, 6);
        told(bureau, 0, 144, 144, 0, 0, 0, 6, 0);
    }

    private static void p14_anEndedOneTells0OfTheFirstFive() {
        SkyloadBureau bureau = Made.busy();
        told(bureau, Made.RULING, 6, 2, 2, 2, 0, 6, 30);
        bureau.end(Made.RULING);
        told(bureau, Made.RULING, 0, 0, 0, 0, 0, 6, 30);
    }

    private static void p14_anEndedOneIsChargedStill() {
        SkyloadBureau bureau = Made.busy();
        bureau.end(Made.RULING);
        bureau.message(Made.SECOND, 1, GO, 620);
        told(bureau, Made.RULING, 0, 0, 0, 0, 0, 6, 50);
    }

    private static void p14_chargesAre0AtFirstAndWithoutASlotTime() {
        SkyloadBureau bureau = tens(100);
        Edges.equal("at first", bureau.regulationIs(0, CHARGED), 0);
        bureau.message(0, 1, GO, 140);
        Edges.equal("without a slot time", bureau.regulationIs(0, CHARGED), 0);
    }

    private static void p14_chargesAreToTheSlotTimeAndNotToTheDeparture() {
        int[] minutes = {0, 100, 110, 1439};
        for (int minute : minutes) {
            SkyloadBureau bureau = tens(100, 100);
            bureau.deal(true);
            Edges.equal("still waiting", bureau.regulationIs(0, CHARGED), 0);
            bureau.message(1, 1, GO, minute);
            Edges.equal("gone at " + minute, bureau.regulationIs(0, CHARGED), 10);
        }
    }

    private static void p14_chargesOfNoMinuteAreNone() {
        SkyloadBureau bureau = tens(100, 100);
        bureau.deal(true);
        bureau.message(1, 1, REPLAN, 110);
        bureau.message(1, 2, GO, 110);
        Edges.equal("slot time", bureau.flightIs(1, 2), 110);
        Edges.equal("planned for its slot time", bureau.regulationIs(0, CHARGED), 0);
    }

    private static void p14_chargesAreNotThoseOfCancelledOnes() {
        SkyloadBureau bureau = tens(100, 100);
        bureau.deal(true);
        bureau.message(1, 1, CANCEL, 0);
        Edges.equal("cancelled", bureau.regulationIs(0, CHARGED), 0);
    }

    private static void p14_chargesAreOfTheRulingAlone() {
        SkyloadBureau bureau = tens(100);
        bureau.regulation(0, 100, 140, 0);
        bureau.regulation(0, 100, 130, 0);
        bureau.deal(true);
        bureau.message(0, 1, GO, 140);
        Edges.equal("a lower one", bureau.regulationIs(0, CHARGED), 0);
        Edges.equal("the ruling", bureau.regulationIs(1, CHARGED), 40);
        Edges.equal("a higher one", bureau.regulationIs(2, CHARGED), 0);
    }

    private static void p14_isAsItWouldBeDealtNow() {
        SkyloadBureau bureau = tens(100, 100);
        Edges.equal("listed, not dealt yet", bureau.regulationIs(0, LISTED), 2);
        bureau.flight(0, 100);
        Edges.equal("without an entry yet", bureau.regulationIs(0, LISTED), 2);
        bureau.entry(2, 0, 0, 1);
        Edges.equal("with an entry", bureau.regulationIs(0, LISTED), 3);
        Edges.equal("free", bureau.regulationIs(0, FREE_SLOTS), 3);
        bureau.rate(0, 2);
        Edges.equal("without a slot by another rate", bureau.regulationIs(0, WITHOUT_SLOT), 1);
    }

    // ---- promise 15: slot

    private static void p15_regulationIs0ToTheLast() {
        Edges.numbers(0, 5, Made::fullOfRegulations, (bureau, regulation) -> bureau.slot(regulation, 0));
        Edges.numbers(0, 0, () -> Made.regulated(0, 1, 0), (bureau, regulation) -> bureau.slot(regulation, 0));
    }

    private static void p15_slotIsFrom0() {
        int[] below = {-1, -2, Integer.MIN_VALUE};
        for (int slot : below) {
            Edges.noSuch("slot " + slot, Made::busy, bureau -> bureau.slot(Made.RULING, slot));
        }
        Edges.equal("slot 0", Made.busy().slot(Made.RULING, 0), 600);
    }

    private static void p15_aSlotBelow0OfAnEndedOneIsRefused() {
        Edges.noSuch("ended", Made::busy, bureau -> bureau.slot(Made.ENDED, -1));
        Edges.noSuch("rate 0", Made::busy, bureau -> bureau.slot(Made.SHUT, -1));
    }

    private static void p15_isNoneIfThereAreNotSoMany() {
        SkyloadBureau bureau = Made.regulated(100, 160, 6);
        Edges.equal("the last one", bureau.slot(0, 5), 150);
        Edges.equal("one more", bureau.slot(0, 6), NONE);
        Edges.equal("the last one of two", Made.regulated(100, 161, 1).slot(0, 1), 160);
        Edges.equal("one that would begin at the end", Made.regulated(100, 160, 1).slot(0, 1), NONE);
    }

    private static void p15_isNoneFarAbove() {
        SkyloadBureau bureau = Made.regulated(0, 1440, 60);
        int[] above = {1440, 71582788, 71582789, Integer.MAX_VALUE - 1, Integer.MAX_VALUE};
        for (int slot : above) {
            Edges.equal("slot " + slot, bureau.slot(0, slot), NONE);
        }
    }

    private static void p15_isNoneWithTheRate0() {
        Edges.equal("slot 0", Made.regulated(0, 1440, 0).slot(0, 0), NONE);
        Edges.equal("slot highest", Made.regulated(0, 1440, 0).slot(0, Integer.MAX_VALUE), NONE);
    }

    private static void p15_isNoneIfItIsEnded() {
        SkyloadBureau bureau = Made.regulated(0, 1440, 60);
        Edges.equal("slot 0", bureau.slot(0, 0), 0);
        bureau.end(0);
        Edges.equal("slot 0, ended", bureau.slot(0, 0), NONE);
        Edges.equal("slot 1439, ended", bureau.slot(0, 1439), NONE);
    }

    private static void p15_beginsAreRoundedDown() {
        SkyloadBureau bureau = Made.regulated(100, 160, 7);
        int[] begins = {100, 108, 117, 125, 134, 142, 151, NONE};
        for (int i = 0; i < begins.length; i++) {
            Edges.equal("slot " + i + ", rate 7", bureau.slot(0, i), begins[i]);
        }
        bureau.rate(0, 59);
        Edges.equal("slot 1, rate 59", bureau.slot(0, 1), 101);
        Edges.equal("slot 58, rate 59", bureau.slot(0, 58), 158);
        Edges.equal("slot 59, rate 59", bureau.slot(0, 59), NONE);
    }

    private static void p15_theFirstAndTheLastOfADay() {
        SkyloadBureau bureau = Made.regulated(0, 1440, 60);
        Edges.equal("the first", bureau.slot(0, 0), 0);
        Edges.equal("the last", bureau.slot(0, 1439), 1439);
        bureau.rate(0, 1);
        Edges.equal("the last by the hour", bureau.slot(0, 23), 1380);
        Edges.equal("none more by the hour", bureau.slot(0, 24), NONE);
    }

    private static void p15_aTakenSlotBeginsAsAFreeOne() {
        SkyloadBureau bureau = tens(100, 100);
        bureau.exempt(0, true);
        Edges.equal("taken by a fixed one", bureau.slot(0, 0), 100);
        Edges.equal("taken by a listed one", bureau.slot(0, 1), 110);
        Edges.equal("free", bureau.slot(0, 2), 120);
    }
}
