/** Promises 1 to 6, sentence by sentence: each end of a range, the empty and the full case, each refused call. */
public final class FlightEdgesTest {
    private static final int REPLAN = SkyloadBureau.REPLAN;
    private static final int CANCEL = SkyloadBureau.CANCEL;
    private static final int GO = SkyloadBureau.GO;
    private static final int NONE = SkyloadBureau.NONE;

    public static void main(String[] args) {
        Edges.runAll(FlightEdgesTest.class);
    }

    private static void told(SkyloadBureau bureau, int flight, int... due) {
        for (int what = 0; what < due.length; what++) {
            Edges.equal("flightIs(" + flight + ", " + what + ")", bureau.flightIs(flight, what), due[what]);
        }
    }

    // ---- promise 1: a new object

    private static void p01_thereIsNoFlight() {
        Edges.noSuch("entry", Made::empty, bureau -> bureau.entry(0, 0, 0, 1));
        Edges.noSuch("exempt", Made::empty, bureau -> bureau.exempt(0, true));
        Edges.noSuch("flightIs", Made::empty, bureau -> bureau.flightIs(0, 0));
        Edges.noSuch("over", Made::empty, bureau -> bureau.over(0, 0));
        Edges.noSuch("penalty", () -> Made.regulated(0, 1440, 0), bureau -> bureau.penalty(0, 0));
        Edges.noSuch("due", Made::empty, bureau -> bureau.due(0));
        Edges.noSuch("dueAnew", Made::empty, bureau -> bureau.dueAnew(0));
        Edges.noSuch("swap", Made::empty, bureau -> bureau.swap(0, 1));
        Edges.noSuch("message", Made::empty, bureau -> bureau.message(0, 1, CANCEL, 0));
    }

    private static void p01_thereIsNoRegulation() {
        Edges.noSuch("rate", Made::empty, bureau -> bureau.rate(0, 0));
        Edges.noSuch("end", Made::empty, bureau -> bureau.end(0));
        Edges.noSuch("regulationIs", Made::empty, bureau -> bureau.regulationIs(0, 0));
        Edges.noSuch("slot", Made::empty, bureau -> bureau.slot(0, 0));
        Edges.noSuch("penalty", () -> Made.over(0), bureau -> bureau.penalty(0, 0));
    }

    private static void p01_theSectorsAreEmpty() {
        SkyloadBureau bureau = new SkyloadBureau();
        for (int sector = 0; sector < 6; sector++) {
            Edges.equal("load from 0", bureau.load(sector, 0, 240), 0);
            Edges.equal("load from 2999", bureau.load(sector, 2999, 240), 0);
            Edges.equal("inside at 0", bureau.inside(sector, 0), 0);
            Edges.equal("inside at 2999", bureau.inside(sector, 2999), 0);
            Edges.equal("peak", bureau.peak(sector, 240), 0);
            Edges.equal("peakAnew", bureau.peakAnew(sector, 240), 0);
        }
    }

    private static void p01_nothingIsDueOrCharged() {
        SkyloadBureau bureau = new SkyloadBureau();
        Edges.equal("allDue", bureau.allDue(), 0);
        Edges.equal("would", bureau.would(0, 0, 1440, 0), 0);
        Edges.equal("deal(true)", bureau.deal(true), 0);
        Edges.equal("deal(false)", bureau.deal(false), 0);
        for (int company = 0; company < 4; company++) {
            for (int what = 0; what < 3; what++) {
                Edges.equal("companyIs", bureau.companyIs(company, what), 0);
            }
        }
    }

    private static void p01_anotherObjectIsNewToo() {
        Made.busy();
        Edges.unchanged("an object made earlier", new SkyloadBureau(), new SkyloadBureau());
        Edges.equal("its first flight", new SkyloadBureau().flight(0, 0), 0);
        Edges.equal("its first regulation", new SkyloadBureau().regulation(0, 0, 1, 0), 0);
    }

    // ---- promise 2: flight

    private static void p02_companyIs0To3() {
        Edges.numbers(0, 3, Made::busy, (bureau, company) -> bureau.flight(company, 600));
    }

    private static void p02_plannedIs0To1439() {
        Edges.arguments(0, 1439, Made::busy, (bureau, planned) -> bureau.flight(0, planned));
    }

    private static void p02_plannedIsKeptAtBothEnds() {
        SkyloadBureau bureau = Made.planned(0, 1439);
        Edges.equal("the first minute", bureau.flightIs(0, 1), 0);
        Edges.equal("the last minute", bureau.flightIs(1, 1), 1439);
    }

    private static void p02_isOfItsCompany() {
        for (int company = 0; company < 4; company++) {
            SkyloadBureau bureau = new SkyloadBureau();
            bureau.flight(company, 0);
            bureau.message(0, 1, GO, 0);
            for (int asked = 0; asked < 4; asked++) {
                Edges.equal("gone of " + asked, bureau.companyIs(asked, 2), asked == company ? 1 : 0);
            }
        }
    }

    private static void p02_returnsNumbersFrom0To23() {
        SkyloadBureau bureau = new SkyloadBureau();
        for (int i = 0; i < 24; i++) {
            Edges.equal("flight", bureau.flight(3, 1439), i);
        }
    }

    private static void p02_a25thIsRefused() {
        Edges.badState("a 25th", Made::fullOfFlights, bureau -> bureau.flight(0, 0));
        Edges.equal("the 24th", Made.fullOfFlights().flightIs(23, 1), 23 * 60);
    }

    private static void p02_goneAndCancelledOnesCountAmongThe24() {
        Edges.badState("a 25th", FlightEdgesTest::fullOfEndedFlights, bureau -> bureau.flight(0, 0));
    }

    private static SkyloadBureau fullOfEndedFlights() {
        SkyloadBureau bureau = new SkyloadBureau();
        for (int i = 0; i < 24; i++) {
            bureau.flight(0, 0);
            bureau.message(i, 1, i % 2 == 0 ? GO : CANCEL, 0);
        }
        return bureau;
    }

    private static void p02_companyComesAheadOfPlanned() {
        Edges.noSuch("company 4, planned -1", Made::empty, bureau -> bureau.flight(4, -1));
        Edges.noSuch("company -1, planned 1440", Made::empty, bureau -> bureau.flight(-1, 1440));
    }

    private static void p02_companyComesAheadOfThe24() {
        Edges.noSuch("company 4", Made::fullOfFlights, bureau -> bureau.flight(4, 0));
        Edges.noSuch("company -1", Made::fullOfFlights, bureau -> bureau.flight(-1, 1440));
    }

    private static void p02_plannedComesAheadOfThe24() {
        Edges.badArgument("planned 1440", Made::fullOfFlights, bureau -> bureau.flight(0, 1440));
        Edges.badArgument("planned -1", Made::fullOfFlights, bureau -> bureau.flight(0, -1));
    }

    private static void p02_hasNoEntries() {
        SkyloadBureau bureau = Made.planned(600);
        Edges.equal("how many", bureau.flightIs(0, 5), 0);
        for (int sector = 0; sector < 6; sector++) {
            Edges.equal("over " + sector, bureau.over(0, sector), NONE);
        }
    }

    private static void p02_isWaitingNotExemptAndWithoutSlotTimeAtFirst() {
        SkyloadBureau bureau = Made.planned(600);
        told(bureau, 0, SkyloadBureau.WAITING, 600, NONE, NONE, 600, 0, 0, 0);
    }

    // ---- promise 3: entry

    private static void p03_flightIs0ToTheLast() {
        Edges.numbers(0, 2, () -> Made.planned(0, 0, 0), (bureau, flight) -> bureau.entry(flight, 0, 0, 1));
    }

    private static void p03_sectorIs0To5() {
        Edges.numbers(0, 5, () -> Made.planned(0), (bureau, sector) -> bureau.entry(0, sector, 0, 1));
    }

    private static void p03_behindIs0To600() {
        Edges.arguments(0, 600, () -> Made.planned(0), (bureau, behind) -> bureau.entry(0, 0, behind, 1));
    }

    private static void p03_behindIsKeptAtBothEnds() {
        SkyloadBureau bureau = Made.planned(100);
        bureau.entry(0, 0, 0, 1);
        bureau.entry(0, 5, 600, 1);
        Edges.equal("0 behind", bureau.over(0, 0), 100);
        Edges.equal("600 behind", bureau.over(0, 5), 700);
    }

    private static void p03_staysIs1To120() {
        Edges.arguments(1, 120, () -> Made.planned(0), (bureau, stays) -> bureau.entry(0, 0, 0, stays));
    }

    private static void p03_staysIsKeptAtBothEnds() {
        SkyloadBureau bureau = Made.planned(100);
        bureau.entry(0, 0, 0, 1);
        bureau.entry(0, 5, 1, 120);
        Edges.equal("the one minute", bureau.inside(0, 100), 1);
        Edges.equal("behind the one minute", bureau.inside(0, 101), 0);
        Edges.equal("the 120th minute", bureau.inside(5, 220), 1);
        Edges.equal("behind the 120th minute", bureau.inside(5, 221), 0);
    }

    private static void p03_returnsHowManyUpTo5() {
        SkyloadBureau bureau = Made.planned(100);
        for (int i = 0; i < 5; i++) {
            Edges.equal("entry", bureau.entry(0, 5 - i, i, 1), i + 1);
        }
    }

    private static void p03_aSixthIsRefused() {
        Edges.badState("a sixth", Made::fullOfEntries, bureau -> bureau.entry(0, 5, 600, 1));
        Edges.equal("five", Made.fullOfEntries().flightIs(0, 5), 5);
    }

    private static void p03_aSectorThatItEntersAlreadyIsRefused() {
        for (int sector = 0; sector < 3; sector++) {
            int again = sector;
            Edges.badState("sector " + sector, FlightEdgesTest::withThreeEntries,
                bureau -> bureau.entry(0, again, 600, 120));
        }
        Edges.equal("another sector", withThreeEntries().entry(0, 3, 600, 120), 4);
    }

    private static SkyloadBureau withThreeEntries() {
        SkyloadBureau bureau = Made.planned(100);
        bureau.entry(0, 0, 10, 5);
        bureau.entry(0, 1, 20, 5);
        bureau.entry(0, 2, 30, 5);
        return bureau;
    }

    private static void p03_aRefusedEntryLeavesTheOneOfThatSector() {
        SkyloadBureau bureau = withThreeEntries();
        Check.badState("p03 sector 1 again", () -> bureau.entry(0, 1, 40, 120));
        Edges.equal("its time", bureau.over(0, 1), 120);
        Edges.equal("its last minute", bureau.inside(1, 124), 1);
        Edges.equal("behind its last minute", bureau.inside(1, 125), 0);
    }

    private static void p03_aRefusedEntryIsNotTheLatestOne() {
        SkyloadBureau bureau = withThreeEntries();
        Check.badState("p03 sector 1 again", () -> bureau.entry(0, 1, 600, 1));
        Edges.equal("less behind than the refused one", bureau.entry(0, 4, 31, 1), 4);
    }

    private static void p03_asManyMinutesBehindAsTheLatestIsRefused() {
        Edges.badState("as many", FlightEdgesTest::withThreeEntries, bureau -> bureau.entry(0, 3, 30, 1));
    }

    private static void p03_fewerMinutesBehindThanTheLatestIsRefused() {
        Edges.badState("one fewer", FlightEdgesTest::withThreeEntries, bureau -> bureau.entry(0, 3, 29, 1));
        Edges.badState("between earlier ones", FlightEdgesTest::withThreeEntries,
            bureau -> bureau.entry(0, 3, 15, 1));
        Edges.badState("ahead of all", FlightEdgesTest::withThreeEntries, bureau -> bureau.entry(0, 3, 0, 1));
    }

    private static void p03_oneMinuteMoreThanTheLatestIsAllowed() {
        Edges.equal("one more", withThreeEntries().entry(0, 3, 31, 1), 4);
        SkyloadBureau bureau = Made.planned(100);
        bureau.entry(0, 0, 0, 120);
        Edges.equal("1 behind 0, though it still stays there", bureau.entry(0, 1, 1, 120), 2);
    }

    private static void p03_behind600ThereIsNoNext() {
        Edges.badState("600 behind 600", FlightEdgesTest::withAnEntryAt600, bureau -> bureau.entry(0, 1, 600, 1));
        Edges.badArgument("601 behind 600", FlightEdgesTest::withAnEntryAt600,
            bureau -> bureau.entry(0, 1, 601, 1));
    }

    private static SkyloadBureau withAnEntryAt600() {
        SkyloadBureau bureau = Made.planned(100);
        bureau.entry(0, 0, 600, 1);
        return bureau;
    }

    private static void p03_aGoneFlightIsRefused() {
        Edges.badState("gone", Made::busy, bureau -> bureau.entry(Made.GONE, 5, 600, 1));
        Edges.badState("gone without a slot time", Made::busy, bureau -> bureau.entry(Made.GONE_AT_WILL, 5, 0, 1));
    }

    private static void p03_aCancelledFlightIsRefused() {
        Edges.badState("cancelled", Made::busy, bureau -> bureau.entry(Made.CANCELLED, 5, 600, 1));
        Edges.badState("cancelled without a slot time", FlightEdgesTest::cancelled,
            bureau -> bureau.entry(0, 0, 0, 1));
    }

    private static SkyloadBureau cancelled() {
        SkyloadBureau bureau = Made.planned(0);
        bureau.message(0, 1, CANCEL, 0);
        return bureau;
    }

    private static void p03_aFlightWithASlotTimeIsRefused() {
        Edges.badState("with a slot time", Made::busy, bureau -> bureau.entry(Made.FIRST, 5, 600, 1));
    }

    private static void p03_aFlightThatLostItsSlotTimeIsNot() {
        SkyloadBureau bureau = Made.busy();
        bureau.message(Made.SECOND, 1, REPLAN, 621);
        Edges.equal("by a message", bureau.entry(Made.SECOND, 5, 600, 1), 3);
        bureau.exempt(Made.FIRST, true);
        Edges.equal("by becoming exempt", bureau.entry(Made.FIRST, 5, 600, 1), 3);
    }

    private static void p03_anExemptFlightIsAllowed() {
        Edges.equal("exempt", Made.busy().entry(Made.EXEMPT, 5, 600, 1), 3);
    }

    private static void p03_numbersComeAheadOfArguments() {
        Edges.noSuch("flight 1, behind 601", () -> Made.planned(0), bureau -> bureau.entry(1, 0, 601, 1));
        Edges.noSuch("flight -1, stays 0", () -> Made.planned(0), bureau -> bureau.entry(-1, 0, 0, 0));
        Edges.noSuch("sector 6, behind -1", () -> Made.planned(0), bureau -> bureau.entry(0, 6, -1, 1));
        Edges.noSuch("sector -1, stays 121", () -> Made.planned(0), bureau -> bureau.entry(0, -1, 0, 121));
    }

    private static void p03_numbersComeAheadOfTheState() {
        Edges.noSuch("sector 6 of a gone one", Made::busy, bureau -> bureau.entry(Made.GONE, 6, 0, 1));
        Edges.noSuch("sector -1 with five", Made::fullOfEntries, bureau -> bureau.entry(0, -1, 600, 1));
    }

    private static void p03_argumentsComeAheadOfTheState() {
        Edges.badArgument("behind 601 of a gone one", Made::busy, bureau -> bureau.entry(Made.GONE, 5, 601, 1));
        Edges.badArgument("stays 0 of a cancelled one", Made::busy,
            bureau -> bureau.entry(Made.CANCELLED, 5, 600, 0));
        Edges.badArgument("stays 121 with a slot time", Made::busy,
            bureau -> bureau.entry(Made.FIRST, 5, 600, 121));
        Edges.badArgument("stays 0 with five", Made::fullOfEntries, bureau -> bureau.entry(0, 5, 600, 0));
        Edges.badArgument("behind -1 of that sector", FlightEdgesTest::withThreeEntries,
            bureau -> bureau.entry(0, 1, -1, 1));
    }

    // ---- promise 4: exempt

    private static void p04_flightIs0ToTheLast() {
        Edges.numbers(0, 2, () -> Made.planned(0, 0, 0), (bureau, flight) -> bureau.exempt(flight, true));
    }

    private static void p04_returnsWhetherItWas() {
        SkyloadBureau bureau = Made.planned(0);
        Edges.isTrue("not at first", !bureau.exempt(0, true));
        Edges.isTrue("was, told the same again", bureau.exempt(0, true));
        Edges.isTrue("was, told the other", bureau.exempt(0, false));
        Edges.isTrue("was not, told the same again", !bureau.exempt(0, false));
        Edges.isTrue("was not", !bureau.exempt(0, true));
    }

    private static void p04_aGoneFlightIsRefused() {
        Edges.badState("true", Made::busy, bureau -> bureau.exempt(Made.GONE, true));
        Edges.badState("false", Made::busy, bureau -> bureau.exempt(Made.GONE, false));
    }

    private static void p04_aCancelledFlightIsRefused() {
        Edges.badState("true", Made::busy, bureau -> bureau.exempt(Made.CANCELLED, true));
        Edges.badState("false", Made::busy, bureau -> bureau.exempt(Made.CANCELLED, false));
    }

    private static void p04_aFlightThatEndedExemptStaysSo() {
        SkyloadBureau bureau = Made.busy();
        bureau.message(Made.EXEMPT, 1, GO, 600);
        Check.badState("p04 gone", () -> bureau.exempt(Made.EXEMPT, false));
        Edges.equal("gone", bureau.flightIs(Made.EXEMPT, 7), 1);
    }

    private static void p04_losesTheSlotTimeAsItBecomesSo() {
        SkyloadBureau bureau = Made.busy();
        bureau.exempt(Made.FIRST, true);
        told(bureau, Made.FIRST, SkyloadBureau.WAITING, 601, NONE, NONE, 601, 2, 4, 1);
        bureau.exempt(Made.FIRST, false);
        told(bureau, Made.FIRST, SkyloadBureau.WAITING, 601, NONE, NONE, 601, 2, 4, 0);
    }

    private static void p04_keepsTheSlotTimeIfItIsToldNotToBe() {
        SkyloadBureau bureau = Made.busy();
        bureau.exempt(Made.FIRST, false);
        told(bureau, Made.FIRST, SkyloadBureau.WAITING, 601, 610, Made.RULING, 610, 2, 4, 0);
    }

    // ---- promise 5: flightIs

    private static void p05_flightIs0ToTheLast() {
        Edges.numbers(0, Made.LAST_FLIGHT, Made::busy, (bureau, flight) -> bureau.flightIs(flight, 0));
        Edges.numbers(0, 23, Made::fullOfFlights, (bureau, flight) -> bureau.flightIs(flight, 7));
    }

    private static void p05_whatIs0To7() {
        Edges.arguments(0, 7, Made::busy, (bureau, what) -> bureau.flightIs(Made.FIRST, what));
    }

    private static void p05_flightComesAheadOfWhat() {
        Edges.noSuch("what 8", Made::busy, bureau -> bureau.flightIs(Made.LAST_FLIGHT + 1, 8));
        Edges.noSuch("what -1", Made::busy, bureau -> bureau.flightIs(-1, -1));
    }

    private static void p05_howItIs() {
        SkyloadBureau bureau = Made.busy();
        Edges.equal("waiting", bureau.flightIs(Made.FIRST, 0), 0);
        Edges.equal("waiting and exempt", bureau.flightIs(Made.EXEMPT, 0), 0);
        Edges.equal("gone", bureau.flightIs(Made.GONE, 0), 1);
        Edges.equal("cancelled", bureau.flightIs(Made.CANCELLED, 0), 2);
    }

    private static void p05_goneIsForEver() {
        SkyloadBureau bureau = Made.busy();
        bureau.message(Made.GONE, 98, CANCEL, 0);
        bureau.message(Made.GONE, 99, REPLAN, 0);
        bureau.deal(true);
        told(bureau, Made.GONE, SkyloadBureau.GONE, 600, 630, Made.RULING, 641, 2, 1, 0);
    }

    private static void p05_cancelledIsForEver() {
        SkyloadBureau bureau = Made.busy();
        bureau.message(Made.CANCELLED, 98, GO, 0);
        bureau.message(Made.CANCELLED, 99, REPLAN, 0);
        bureau.deal(true);
        told(bureau, Made.CANCELLED, SkyloadBureau.CANCELLED, 600, 640, Made.RULING, 640, 2, 2, 0);
    }

    private static void p05_thePlannedTimeIsToldBesideADeparture() {
        SkyloadBureau bureau = Made.busy();
        Edges.equal("with a slot time", bureau.flightIs(Made.SECOND, 1), 600);
        Edges.equal("gone", bureau.flightIs(Made.GONE, 1), 600);
        Edges.equal("replanned", bureau.flightIs(Made.FIRST, 1), 601);
    }

    private static void p05_slotTimeAndRulingAreNoneWithout() {
        SkyloadBureau bureau = Made.busy();
        int[] without = {Made.EXEMPT, Made.GONE_AT_WILL, Made.FREE};
        for (int flight : without) {
            Edges.equal("slot time of " + flight, bureau.flightIs(flight, 2), NONE);
            Edges.equal("ruling of " + flight, bureau.flightIs(flight, 3), NONE);
        }
    }

    private static void p05_rulingIs0To5() {
        SkyloadBureau bureau = Made.over(700);
        for (int i = 0; i < 6; i++) {
            bureau.regulation(0, 700, 701 + i, 0);
            bureau.deal(true);
            Edges.equal("the latest one is due", bureau.flightIs(0, 3), i);
        }
    }

    private static void p05_slotTimeIs1To1440() {
        SkyloadBureau bureau = Made.over(0, 1439);
        bureau.regulation(0, 0, 1, 0);
        bureau.regulation(0, 1439, 1440, 0);
        bureau.deal(false);
        Edges.equal("the earliest", bureau.flightIs(0, 2), 1);
        Edges.equal("the latest", bureau.flightIs(1, 2), 1440);
        Edges.equal("the departure by the latest", bureau.flightIs(1, 4), 1440);
    }

    private static void p05_departureIsTheTimeItWentIfItIsGone() {
        SkyloadBureau bureau = Made.busy();
        Edges.equal("with a slot time", bureau.flightIs(Made.GONE, 4), 641);
        bureau.message(Made.FREE, 1, GO, 0);
        Edges.equal("at 0", bureau.flightIs(Made.FREE, 4), 0);
        bureau.message(Made.FIRST, 5, GO, 1439);
        Edges.equal("at 1439", bureau.flightIs(Made.FIRST, 4), 1439);
    }

    private static void p05_departureIsTheSlotTimeOtherwise() {
        Edges.equal("waiting", Made.busy().flightIs(Made.FIRST, 4), 610);
    }

    private static void p05_departureIsThePlannedTimeWithoutASlotTime() {
        SkyloadBureau bureau = Made.busy();
        Edges.equal("not regulated", bureau.flightIs(Made.FREE, 4), 620);
        Edges.equal("exempt", bureau.flightIs(Made.EXEMPT, 4), 600);
    }

    private static void p05_departureIsAsIfItWereNotCancelled() {
        SkyloadBureau bureau = Made.busy();
        Edges.equal("with a slot time", bureau.flightIs(Made.CANCELLED, 4), 640);
        bureau.message(Made.FREE, 1, CANCEL, 0);
        Edges.equal("without", bureau.flightIs(Made.FREE, 4), 620);
    }

    private static void p05_entriesAre0To5() {
        Edges.equal("none", Made.planned(0).flightIs(0, 5), 0);
        Edges.equal("all", Made.fullOfEntries().flightIs(0, 5), 5);
    }

    private static void p05_theLatestMessageIs0Without() {
        SkyloadBureau bureau = Made.planned(0);
        Edges.equal("without", bureau.flightIs(0, 6), 0);
        bureau.message(0, 1, REPLAN, 0);
        Edges.equal("the lowest", bureau.flightIs(0, 6), 1);
        bureau.message(0, 99, REPLAN, 0);
        Edges.equal("the highest", bureau.flightIs(0, 6), 99);
        bureau.message(0, 98, REPLAN, 0);
        Edges.equal("one not taken", bureau.flightIs(0, 6), 99);
    }

    private static void p05_exemptIs1Or0() {
        SkyloadBureau bureau = Made.busy();
        Edges.equal("exempt", bureau.flightIs(Made.EXEMPT, 7), 1);
        Edges.equal("not exempt", bureau.flightIs(Made.FREE, 7), 0);
    }

    // ---- promise 6: over

    private static void p06_flightIs0ToTheLast() {
        Edges.numbers(0, Made.LAST_FLIGHT, Made::busy, (bureau, flight) -> bureau.over(flight, 0));
    }

    private static void p06_sectorIs0To5() {
        Edges.numbers(0, 5, Made::busy, (bureau, sector) -> bureau.over(Made.FIRST, sector));
    }

    private static void p06_isNoneIfItDoesNotEnter() {
        SkyloadBureau bureau = Made.busy();
        Edges.equal("not this one", bureau.over(Made.FIRST, 2), NONE);
        Edges.equal("none at all", bureau.over(Made.GONE_AT_WILL, 0), NONE);
        Edges.equal("the one of five that is left", Made.fullOfEntries().over(0, 5), NONE);
    }

    private static void p06_isFrom0On() {
        Edges.equal("the earliest", Made.over(0).over(0, 0), 0);
    }

    private static void p06_mayBeAbove1439() {
        SkyloadBureau bureau = Made.planned(1439);
        bureau.entry(0, 0, 0, 1);
        bureau.entry(0, 1, 1, 1);
        bureau.entry(0, 2, 600, 1);
        Edges.equal("1439", bureau.over(0, 0), 1439);
        Edges.equal("1440", bureau.over(0, 1), 1440);
        Edges.equal("2039", bureau.over(0, 2), 2039);
        bureau.regulation(0, 1439, 1440, 0);
        bureau.deal(true);
        Edges.equal("2040", bureau.over(0, 2), 2040);
    }

    private static void p06_isByTheSlotTime() {
        SkyloadBureau bureau = Made.busy();
        Edges.equal("sector 0", bureau.over(Made.FIRST, 0), 620);
        Edges.equal("sector 1", bureau.over(Made.FIRST, 1), 640);
    }

    private static void p06_isByTheTimeItWent() {
        SkyloadBureau bureau = Made.busy();
        Edges.equal("sector 0", bureau.over(Made.GONE, 0), 651);
        Edges.equal("sector 1", bureau.over(Made.GONE, 1), 671);
    }

    private static void p06_isByThePlannedTimeWithoutASlotTime() {
        Edges.equal("exempt", Made.busy().over(Made.EXEMPT, 0), 610);
        Edges.equal("not regulated", Made.busy().over(Made.FREE, 5), 620);
    }

    private static void p06_isToldOfACancelledOneToo() {
        Edges.equal("with a slot time", Made.busy().over(Made.CANCELLED, 1), 670);
    }
}
