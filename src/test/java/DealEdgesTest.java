/** Promises 21 to 24, sentence by sentence: each end of a range, the empty and the full case, each refused call. */
public final class DealEdgesTest {
    private static final int REPLAN = SkyloadBureau.REPLAN;
    private static final int CANCEL = SkyloadBureau.CANCEL;
    private static final int GO = SkyloadBureau.GO;
    private static final int NONE = SkyloadBureau.NONE;

    // The two flights of pair().
    private static final int A = 1;
    private static final int B = 2;

    // What companyIs tells.
    private static final int CHARGED = 0;
    private static final int OUT_OF_WINDOW = 1;
    private static final int GONE = 2;

    public static void main(String[] args) {
        Edges.runAll(DealEdgesTest.class);
    }

    /** Flights over sector 0, regulated there from 100 to 160 with slots every ten minutes. */
    private static SkyloadBureau tens(int... minutes) {
        SkyloadBureau bureau = Made.over(minutes);
        bureau.regulation(0, 100, 160, 6);
        return bureau;
    }

    private static SkyloadBureau dealt(int... minutes) {
        SkyloadBureau bureau = tens(minutes);
        bureau.deal(true);
        return bureau;
    }

    private static void slotTime(String what, SkyloadBureau bureau, int flight, int slotTime, int ruling) {
        Edges.equal(what + ", slot time", bureau.flightIs(flight, 2), slotTime);
        Edges.equal(what + ", ruling", bureau.flightIs(flight, 3), ruling);
    }

    // ---- promise 21: deal

    private static void p21_returns0WithoutFlightsOrRegulations() {
        Edges.equal("neither", new SkyloadBureau().deal(true), 0);
        Edges.equal("no flights", Made.regulated(0, 1440, 0).deal(false), 0);
        Edges.equal("no regulations", Made.fullOfFlights().deal(true), 0);
    }

    private static void p21_theDue0GivesNoSlotTime() {
        SkyloadBureau bureau = tens(100, 500);
        Edges.equal("deal", bureau.deal(true), 0);
        slotTime("listed", bureau, 0, NONE, NONE);
        slotTime("not listed", bureau, 1, NONE, NONE);
    }

    private static void p21_theDue0TakesASlotTimeAlsoWithoutWorsening() {
        boolean[] both = {false, true};
        for (boolean mayWorsen : both) {
            SkyloadBureau bureau = dealt(100, 100);
            bureau.message(0, 1, CANCEL, 0);
            Edges.equal("deal", bureau.deal(mayWorsen), 0);
            slotTime("due 0", bureau, 1, NONE, NONE);
        }
    }

    private static void p21_theSmallestDueGivesOne() {
        SkyloadBureau bureau = Made.over(1439);
        bureau.regulation(0, 1439, 1440, 0);
        Edges.equal("deal", bureau.deal(false), 1);
        slotTime("due 1", bureau, 0, 1440, 0);
    }

    private static void p21_theGreatestDueGivesOne() {
        SkyloadBureau bureau = Made.over(0);
        bureau.regulation(0, 0, 1440, 0);
        Edges.equal("deal", bureau.deal(false), 1440);
        slotTime("due 1440", bureau, 0, 1440, 0);
    }

    private static void p21_theSlotTimeIsThePlannedTimeAndTheDue() {
        SkyloadBureau bureau = Made.planned(80);
        bureau.entry(0, 0, 20, 5);
        bureau.regulation(0, 100, 160, 0);
        bureau.deal(false);
        slotTime("due 60", bureau, 0, 140, 0);
        Edges.equal("time over", bureau.over(0, 0), 160);
    }

    private static void p21_theRulingIsTheLowestOfLikeOnes() {
        SkyloadBureau bureau = Made.over(100);
        bureau.regulation(0, 100, 110, 0);
        bureau.regulation(0, 99, 120, 0);
        bureau.regulation(0, 100, 120, 0);
        bureau.regulation(0, 100, 115, 0);
        bureau.deal(true);
        slotTime("two like ones", bureau, 0, 120, 1);
    }

    private static void p21_withoutWorseningOneMinuteLaterIsNotTaken() {
        SkyloadBureau bureau = dealt(105, 105);
        bureau.message(1, 1, REPLAN, 105);
        bureau.end(0);
        bureau.regulation(0, 100, 111, 0);
        Edges.equal("deal", bureau.deal(false), 6 + 5);
        slotTime("a first one", bureau, 0, 111, 1);
        slotTime("the one that it has", bureau, 1, 110, 0);
    }

    private static void p21_withoutWorseningAsLateIsTaken() {
        SkyloadBureau bureau = dealt(105, 105);
        bureau.end(0);
        bureau.regulation(0, 100, 110, 0);
        Edges.equal("deal", bureau.deal(false), 5 + 5);
        slotTime("as late, by another ruling", bureau, 1, 110, 1);
    }

    private static void p21_withoutWorseningEarlierIsTaken() {
        SkyloadBureau bureau = dealt(105, 105);
        bureau.end(0);
        bureau.regulation(0, 100, 109, 0);
        Edges.equal("deal", bureau.deal(false), 4 + 4);
        slotTime("a minute earlier", bureau, 1, 109, 1);
    }

    private static void p21_withWorseningOneMinuteLaterIsTaken() {
        SkyloadBureau bureau = dealt(105, 105);
        bureau.end(0);
        bureau.regulation(0, 100, 111, 0);
        Edges.equal("deal", bureau.deal(true), 6 + 6);
        slotTime("a minute later", bureau, 1, 111, 1);
    }

    private static void p21_withoutASlotTimeAnyIsTaken() {
        SkyloadBureau bureau = tens(100);
        bureau.rate(0, 0);
        Edges.equal("deal", bureau.deal(false), 60);
        slotTime("the first one", bureau, 0, 160, 0);
    }

    private static void p21_isByTheDuesAsTheyAre() {
        SkyloadBureau bureau = tens(100, 100, 100);
        Edges.equal("first", bureau.deal(false), 30);
        Edges.equal("the same again", bureau.deal(false), 30);
        Edges.equal("with worsening", bureau.deal(true), 30);
        slotTime("by planned times and not by slot times", bureau, 2, 120, 0);
    }

    private static void p21_leavesExemptGoneAndCancelledOnesAlone() {
        SkyloadBureau bureau = Made.busy();
        bureau.rate(Made.RULING, 0);
        bureau.deal(true);
        slotTime("exempt", bureau, Made.EXEMPT, NONE, NONE);
        slotTime("gone", bureau, Made.GONE, 630, Made.RULING);
        slotTime("cancelled", bureau, Made.CANCELLED, 640, Made.RULING);
        slotTime("gone without", bureau, Made.GONE_AT_WILL, NONE, NONE);
    }

    private static void p21_returnsTheMinutesOfWaitingOnesAlone() {
        SkyloadBureau bureau = dealt(100, 100, 100, 100, 100);
        Edges.equal("four", bureau.deal(false), 10 + 20 + 30 + 40);
        bureau.message(3, 1, GO, 130);
        Edges.equal("gone", bureau.deal(false), 10 + 20 + 40);
        bureau.message(4, 1, CANCEL, 0);
        Edges.equal("cancelled", bureau.deal(false), 10 + 20);
        bureau.exempt(0, true);
        Edges.equal("exempt", bureau.deal(false), 10 + 20);
        bureau.exempt(1, true);
        Edges.equal("exempt with a slot time", bureau.deal(false), 20);
    }

    private static void p21_returnsTheMinutesOfKeptSlotTimesToo() {
        SkyloadBureau bureau = dealt(105, 105);
        bureau.rate(0, 0);
        Edges.equal("55 for the first one, 5 for the other one", bureau.deal(false), 55 + 5);
        slotTime("kept", bureau, 1, 110, 0);
    }

    private static void p21_returnsTheMinutesFromAPlannedTimeToldAnew() {
        SkyloadBureau bureau = dealt(105, 105);
        bureau.rate(0, 0);
        bureau.message(0, 1, REPLAN, 500);
        bureau.message(1, 1, REPLAN, 101);
        Edges.equal("kept, from 101 to 110", bureau.deal(false), 9);
    }

    private static void p21_dealsAll24() {
        int[] minutes = new int[24];
        SkyloadBureau bureau = Made.over(minutes);
        bureau.regulation(0, 0, 1440, 0);
        Edges.equal("deal", bureau.deal(false), 24 * 1440);
        for (int i = 0; i < 24; i++) {
            slotTime("flight " + i, bureau, i, 1440, 0);
        }
    }

    private static void p21_isNotWorsenedAfterASwapEither() {
        SkyloadBureau bureau = pair();
        bureau.swap(A, B);
        Edges.equal("deal", bureau.deal(false), 10 + 10);
        slotTime("swapped to a later one", bureau, A, 100, 0);
        slotTime("swapped to an earlier one", bureau, B, 105, 0);
        Edges.equal("deal with worsening", bureau.deal(true), 10 + 20);
        slotTime("as dealt", bureau, B, 115, 0);
    }

    // ---- promise 22: swap

    private static SkyloadBureau pair() {
        return pairOf(0, 0);
    }

    /**
     * A is planned at 90, over sector 0 at 100; its slot time is 100, over sector 0 at 110. B is planned at 95, over
     * sector 0 at 100; its slot time is 115, over sector 0 at 120. An exempt one has the slot ahead of them.
     */
    private static SkyloadBureau pairOf(int companyOfA, int companyOfB) {
        SkyloadBureau bureau = Made.over(100);
        bureau.exempt(0, true);
        bureau.flight(companyOfA, 90);
        bureau.entry(A, 0, 10, 5);
        bureau.flight(companyOfB, 95);
        bureau.entry(B, 0, 5, 5);
        bureau.regulation(0, 100, 160, 6);
        bureau.deal(true);
        return bureau;
    }

    private static SkyloadBureau swappedPair() {
        SkyloadBureau bureau = pair();
        bureau.swap(A, B);
        return bureau;
    }

    private static void bothWaysRefused(String what, Edges.Make make, int flight, int other) {
        Edges.badState(what, make, bureau -> bureau.swap(flight, other));
        Edges.badState(what + ", the other way", make, bureau -> bureau.swap(other, flight));
    }

    private static void p22_flightAndOtherAre0ToTheLast() {
        int[] none = {-1, 3, Integer.MIN_VALUE, Integer.MAX_VALUE};
        for (int flight : none) {
            Edges.noSuch("flight " + flight, DealEdgesTest::pair, bureau -> bureau.swap(flight, A));
            Edges.noSuch("other " + flight, DealEdgesTest::pair, bureau -> bureau.swap(A, flight));
        }
        SkyloadBureau bureau = Made.over(0, 0);
        bureau.regulation(0, 0, 10, 0);
        bureau.deal(true);
        bureau.swap(0, 1);
        slotTime("the first and the last one", bureau, 0, 10, 0);
    }

    private static void p22_bothTheSameAreRefused() {
        Edges.badArgument("with a slot time", DealEdgesTest::pair, bureau -> bureau.swap(A, A));
    }

    private static void p22_bothTheSameComeAheadOfTheState() {
        Edges.badArgument("without a slot time", Made::busy, bureau -> bureau.swap(Made.FREE, Made.FREE));
        Edges.badArgument("gone", Made::busy, bureau -> bureau.swap(Made.GONE, Made.GONE));
        Edges.badArgument("cancelled", Made::busy, bureau -> bureau.swap(Made.CANCELLED, Made.CANCELLED));
    }

    private static void p22_noSuchFlightComesAheadOfBothTheSame() {
        Edges.noSuch("-1 twice", DealEdgesTest::pair, bureau -> bureau.swap(-1, -1));
        Edges.noSuch("3 twice", DealEdgesTest::pair, bureau -> bureau.swap(3, 3));
    }

    private static void p22_noSuchFlightComesAheadOfTheState() {
        Edges.noSuch("other", Made::busy, bureau -> bureau.swap(Made.GONE, Made.LAST_FLIGHT + 1));
        Edges.noSuch("flight", Made::busy, bureau -> bureau.swap(-1, Made.CANCELLED));
    }

    private static void p22_aGoneOneCannotBeSwapped() {
        bothWaysRefused("gone with the same ruling", Made::busy, Made.SECOND, Made.GONE);
    }

    private static void p22_aCancelledOneCannotBeSwapped() {
        bothWaysRefused("cancelled with the same ruling", Made::busy, Made.SECOND, Made.CANCELLED);
    }

    private static void p22_twoThatDoNotWaitCannotBeSwapped() {
        bothWaysRefused("gone and cancelled", Made::busy, Made.GONE, Made.CANCELLED);
    }

    private static void p22_oneWithoutASlotTimeCannotBeSwapped() {
        bothWaysRefused("one of both", () -> dealt(100, 100), 0, 1);
        bothWaysRefused("an exempt one", DealEdgesTest::pair, A, 0);
    }

    private static void p22_twoWithoutSlotTimesCannotBeSwapped() {
        bothWaysRefused("never dealt", () -> Made.over(100, 100), 0, 1);
    }

    private static void p22_twoOfTwoCompaniesCannotBeSwapped() {
        bothWaysRefused("companies 0 and 1", () -> pairOf(0, 1), A, B);
        bothWaysRefused("companies 3 and 2", () -> pairOf(3, 2), A, B);
    }

    private static void p22_twoOfEachCompanyCanBeSwapped() {
        for (int company = 0; company < 4; company++) {
            SkyloadBureau bureau = pairOf(company, company);
            bureau.swap(A, B);
            slotTime("company " + company, bureau, A, 110, 0);
        }
    }

    private static void p22_twoRulingsCannotBeSwapped() {
        bothWaysRefused("of one sector", DealEdgesTest::withTwoRulings, 0, 1);
    }

    private static SkyloadBureau withTwoRulings() {
        SkyloadBureau bureau = Made.over(100, 110);
        bureau.regulation(0, 100, 110, 0);
        bureau.regulation(0, 110, 120, 0);
        bureau.deal(true);
        return bureau;
    }

    private static void p22_eachGetsTheTimeOverOfTheOther() {
        SkyloadBureau bureau = pair();
        slotTime("A at first", bureau, A, 100, 0);
        slotTime("B at first", bureau, B, 115, 0);
        bureau.swap(A, B);
        slotTime("A", bureau, A, 110, 0);
        slotTime("B", bureau, B, 105, 0);
        Edges.equal("A over the sector", bureau.over(A, 0), 120);
        Edges.equal("B over the sector", bureau.over(B, 0), 110);
    }

    private static void p22_theOtherWayIsTheSame() {
        SkyloadBureau bureau = pair();
        bureau.swap(B, A);
        Edges.unchanged("the other way", bureau, swappedPair());
    }

    private static void p22_swappedTwiceIsAsBefore() {
        SkyloadBureau bureau = swappedPair();
        bureau.swap(A, B);
        Edges.unchanged("twice", bureau, pair());
    }

    private static void p22_isByTheSectorOfTheRuling() {
        SkyloadBureau bureau = Made.planned(100, 100, 100);
        bureau.entry(0, 0, 1, 5);
        bureau.entry(0, 1, 10, 5);
        bureau.entry(0, 3, 40, 5);
        bureau.entry(1, 3, 20, 5);
        bureau.entry(1, 0, 30, 5);
        bureau.entry(1, 1, 31, 5);
        bureau.entry(2, 3, 20, 5);
        bureau.exempt(2, true);
        bureau.regulation(0, 0, 1440, 60);
        bureau.regulation(3, 120, 180, 2);
        bureau.deal(true);
        slotTime("over sector 3 at 180", bureau, 0, 140, 1);
        slotTime("over sector 3 at 150", bureau, 1, 130, 1);
        bureau.swap(0, 1);
        slotTime("swapped, over sector 3 at 150", bureau, 0, 110, 1);
        slotTime("swapped, over sector 3 at 180", bureau, 1, 160, 1);
    }

    private static void p22_anEndedRulingIsAllowed() {
        SkyloadBureau bureau = pair();
        bureau.end(0);
        bureau.swap(A, B);
        slotTime("A", bureau, A, 110, 0);
        slotTime("B", bureau, B, 105, 0);
    }

    private static void p22_likeTimesOverMayBeSwapped() {
        SkyloadBureau bureau = Made.over(100, 101);
        bureau.regulation(0, 100, 110, 0);
        bureau.deal(true);
        bureau.swap(0, 1);
        slotTime("the one", bureau, 0, 110, 0);
        slotTime("the other one", bureau, 1, 110, 0);
    }

    private static SkyloadBureau pairWithBPlannedAt(int minute) {
        SkyloadBureau bureau = pair();
        bureau.message(B, 1, REPLAN, minute);
        return bureau;
    }

    private static SkyloadBureau swappedPairWithAPlannedAt(int minute) {
        SkyloadBureau bureau = swappedPair();
        bureau.message(A, 1, REPLAN, minute);
        return bureau;
    }

    private static void p22_aSlotTimeAtThePlannedTimeIsAllowed() {
        SkyloadBureau later = pairWithBPlannedAt(105);
        later.swap(A, B);
        slotTime("B", later, B, 105, 0);
        SkyloadBureau otherWay = pairWithBPlannedAt(105);
        otherWay.swap(B, A);
        slotTime("B, the other way", otherWay, B, 105, 0);
        SkyloadBureau swapped = swappedPairWithAPlannedAt(100);
        swapped.swap(A, B);
        slotTime("A", swapped, A, 100, 0);
    }

    private static void p22_aSlotTimeAheadOfThePlannedTimeIsRefused() {
        bothWaysRefused("B would be", () -> pairWithBPlannedAt(106), A, B);
        bothWaysRefused("A would be", () -> swappedPairWithAPlannedAt(101), A, B);
    }

    private static void p22_aSlotTimeBelow0IsRefused() {
        bothWaysRefused("below 0", DealEdgesTest::withASwapBelow0, 0, 1);
    }

    /** Over the sector at 20 and 110; swapped, the second one would have to depart at -80. */
    private static SkyloadBureau withASwapBelow0() {
        SkyloadBureau bureau = Made.planned(10, 0, 10, 100);
        int[] behinds = {0, 100, 0, 0};
        for (int i = 0; i < behinds.length; i++) {
            bureau.entry(i, 0, behinds[i], 5);
        }
        bureau.exempt(2, true);
        bureau.exempt(3, true);
        bureau.regulation(0, 10, 160, 6);
        bureau.deal(true);
        slotTime("the first one", bureau, 0, 20, 0);
        slotTime("the second one", bureau, 1, 10, 0);
        return bureau;
    }

    // ---- promise 23: message

    private static void p23_flightIs0ToTheLast() {
        Edges.numbers(0, 2, () -> Made.planned(0, 0, 0), (bureau, flight) -> bureau.message(flight, 1, GO, 0));
    }

    private static void p23_numberIs1To99() {
        Edges.arguments(1, 99, () -> Made.planned(0), (bureau, number) -> bureau.message(0, number, REPLAN, 5));
        Edges.arguments(1, 99, () -> Made.planned(0), (bureau, number) -> bureau.message(0, number, CANCEL, 0));
        Edges.arguments(1, 99, () -> Made.planned(0), (bureau, number) -> bureau.message(0, number, GO, 5));
    }

    private static void p23_kindIsReplanToGo() {
        Edges.arguments(REPLAN, GO, Made::busy, (bureau, kind) -> bureau.message(Made.FIRST, 99, kind, 0));
    }

    private static void p23_minuteIs0To1439() {
        Edges.arguments(0, 1439, Made::busy, (bureau, minute) -> bureau.message(Made.FIRST, 99, REPLAN, minute));
        Edges.arguments(0, 1439, Made::busy, (bureau, minute) -> bureau.message(Made.FIRST, 99, GO, minute));
    }

    private static void p23_minuteIsJust0ForCancel() {
        Edges.arguments(0, 0, Made::busy, (bureau, minute) -> bureau.message(Made.FIRST, 99, CANCEL, minute));
        Edges.badArgument("1439", Made::busy, bureau -> bureau.message(Made.FIRST, 99, CANCEL, 1439));
    }

    private static void p23_flightComesAheadOfArguments() {
        Edges.noSuch("number 0", () -> Made.planned(0), bureau -> bureau.message(1, 0, GO, 0));
        Edges.noSuch("kind 3", () -> Made.planned(0), bureau -> bureau.message(-1, 1, 3, 0));
        Edges.noSuch("minute 1440", () -> Made.planned(0), bureau -> bureau.message(1, 1, GO, 1440));
        Edges.noSuch("minute 1 of CANCEL", () -> Made.planned(0), bureau -> bureau.message(1, 1, CANCEL, 1));
    }

    private static void p23_argumentsComeAheadOfOneThatTakesNone() {
        int[] ended = {Made.GONE, Made.CANCELLED};
        for (int flight : ended) {
            Edges.badArgument("number 100", Made::busy, bureau -> bureau.message(flight, 100, GO, 0));
            Edges.badArgument("kind -1", Made::busy, bureau -> bureau.message(flight, 99, -1, 0));
            Edges.badArgument("minute 1440", Made::busy, bureau -> bureau.message(flight, 99, GO, 1440));
            Edges.badArgument("minute 1 of CANCEL", Made::busy, bureau -> bureau.message(flight, 99, CANCEL, 1));
        }
    }

    private static void p23_argumentsComeAheadOfALateNumber() {
        Edges.badArgument("kind 3", Made::busy, bureau -> bureau.message(Made.FIRST, 4, 3, 0));
        Edges.badArgument("minute -1", Made::busy, bureau -> bureau.message(Made.FIRST, 1, REPLAN, -1));
        Edges.badArgument("minute 1 of CANCEL", Made::busy, bureau -> bureau.message(Made.FIRST, 4, CANCEL, 1));
    }

    private static void p23_aRefusedMessageDoesNotCountAsTaken() {
        SkyloadBureau bureau = Made.planned(0);
        Check.badArgument("p23 minute 1440", () -> bureau.message(0, 50, REPLAN, 1440));
        Edges.isTrue("a lower number behind it", bureau.message(0, 1, REPLAN, 10));
    }

    private static void p23_aNumberAboveTheLatestIsTaken() {
        SkyloadBureau bureau = Made.planned(0);
        Edges.isTrue("1", bureau.message(0, 1, REPLAN, 10));
        Edges.isTrue("2", bureau.message(0, 2, REPLAN, 20));
        Edges.isTrue("98", bureau.message(0, 98, REPLAN, 30));
        Edges.isTrue("99", bureau.message(0, 99, REPLAN, 40));
        Edges.equal("planned", bureau.flightIs(0, 1), 40);
    }

    private static void notTaken(String what, int flight, int number, int kind, int minute) {
        SkyloadBureau bureau = Made.busy();
        Edges.isTrue(what + " is not taken", !bureau.message(flight, number, kind, minute));
        Edges.unchanged(what, bureau, Made.busy());
    }

    private static void p23_theLatestNumberAgainIsNotTaken() {
        notTaken("REPLAN", Made.FIRST, 4, REPLAN, 0);
        notTaken("CANCEL", Made.FIRST, 4, CANCEL, 0);
        notTaken("GO", Made.FIRST, 4, GO, 0);
    }

    private static void p23_aLowerNumberIsNotTaken() {
        notTaken("REPLAN", Made.FIRST, 3, REPLAN, 1439);
        notTaken("CANCEL", Made.FIRST, 1, CANCEL, 0);
        notTaken("GO", Made.FIRST, 3, GO, 1439);
    }

    private static void p23_behind99NoneIsTaken() {
        SkyloadBureau bureau = Made.planned(0);
        bureau.message(0, 99, REPLAN, 10);
        Edges.isTrue("99 again", !bureau.message(0, 99, GO, 10));
        Edges.isTrue("98", !bureau.message(0, 98, CANCEL, 0));
        Edges.equal("waiting still", bureau.flightIs(0, 0), SkyloadBureau.WAITING);
    }

    private static void p23_numbersAreThoseOfThatFlight() {
        SkyloadBureau bureau = Made.planned(0, 0);
        bureau.message(0, 99, REPLAN, 10);
        Edges.isTrue("1 of another one", bureau.message(1, 1, REPLAN, 10));
        Edges.equal("its latest", bureau.flightIs(1, 6), 1);
    }

    private static void p23_aGoneOneTakesNone() {
        notTaken("REPLAN", Made.GONE, 99, REPLAN, 0);
        notTaken("CANCEL", Made.GONE, 99, CANCEL, 0);
        notTaken("GO", Made.GONE, 99, GO, 0);
    }

    private static void p23_aCancelledOneTakesNone() {
        notTaken("REPLAN", Made.CANCELLED, 99, REPLAN, 0);
        notTaken("CANCEL", Made.CANCELLED, 99, CANCEL, 0);
        notTaken("GO", Made.CANCELLED, 99, GO, 0);
    }

    private static void p23_replanTellsThePlannedTimeAnew() {
        SkyloadBureau bureau = Made.over(100);
        bureau.message(0, 1, REPLAN, 1439);
        Edges.equal("planned", bureau.flightIs(0, 1), 1439);
        Edges.equal("over", bureau.over(0, 0), 1439);
        bureau.message(0, 2, REPLAN, 0);
        Edges.equal("planned at 0", bureau.flightIs(0, 1), 0);
        Edges.equal("waiting still", bureau.flightIs(0, 0), SkyloadBureau.WAITING);
    }

    private static void p23_replanKeepsASlotTimeThatIsNotAhead() {
        int[] minutes = {0, 109, 110};
        for (int minute : minutes) {
            SkyloadBureau bureau = dealt(100, 100);
            bureau.message(1, 1, REPLAN, minute);
            slotTime("replanned to " + minute, bureau, 1, 110, 0);
            Edges.equal("departure", bureau.flightIs(1, 4), 110);
        }
    }

    private static void p23_replanTakesASlotTimeThatIsAhead() {
        int[] minutes = {111, 1439};
        for (int minute : minutes) {
            SkyloadBureau bureau = dealt(100, 100);
            bureau.message(1, 1, REPLAN, minute);
            slotTime("replanned to " + minute, bureau, 1, NONE, NONE);
            Edges.equal("departure", bureau.flightIs(1, 4), minute);
        }
    }

    private static void p23_replanKeepsItExempt() {
        SkyloadBureau bureau = Made.busy();
        Edges.isTrue("taken", bureau.message(Made.EXEMPT, 1, REPLAN, 620));
        Edges.equal("exempt", bureau.flightIs(Made.EXEMPT, 7), 1);
        Edges.equal("over", bureau.over(Made.EXEMPT, 0), 630);
    }

    private static void p23_cancelKeepsSlotTimeAndRuling() {
        SkyloadBureau bureau = Made.busy();
        Edges.isTrue("taken", bureau.message(Made.FIRST, 5, CANCEL, 0));
        Edges.equal("cancelled", bureau.flightIs(Made.FIRST, 0), SkyloadBureau.CANCELLED);
        slotTime("cancelled", bureau, Made.FIRST, 610, Made.RULING);
    }

    private static void p23_goKeepsSlotTimeAndRuling() {
        int[] minutes = {0, 1439};
        for (int minute : minutes) {
            SkyloadBureau bureau = Made.busy();
            Edges.isTrue("taken", bureau.message(Made.FIRST, 5, GO, minute));
            Edges.equal("gone", bureau.flightIs(Made.FIRST, 0), SkyloadBureau.GONE);
            slotTime("gone", bureau, Made.FIRST, 610, Made.RULING);
            Edges.equal("departure", bureau.flightIs(Made.FIRST, 4), minute);
            Edges.equal("planned still", bureau.flightIs(Made.FIRST, 1), 601);
        }
    }

    private static void p23_anExemptOneMayGoOrBeCancelled() {
        SkyloadBureau gone = Made.busy();
        Edges.isTrue("gone", gone.message(Made.EXEMPT, 1, GO, 5));
        Edges.equal("exempt and gone", gone.flightIs(Made.EXEMPT, 0), SkyloadBureau.GONE);
        SkyloadBureau cancelled = Made.busy();
        Edges.isTrue("cancelled", cancelled.message(Made.EXEMPT, 1, CANCEL, 0));
        Edges.equal("exempt and cancelled", cancelled.flightIs(Made.EXEMPT, 0), SkyloadBureau.CANCELLED);
    }

    // ---- promise 24: companyIs

    private static void p24_companyIs0To3() {
        Edges.numbers(0, 3, Made::busy, (bureau, company) -> bureau.companyIs(company, CHARGED));
    }

    private static void p24_whatIs0To2() {
        Edges.arguments(0, 2, Made::busy, (bureau, what) -> bureau.companyIs(0, what));
    }

    private static void p24_companyComesAheadOfWhat() {
        Edges.noSuch("what 3", Made::busy, bureau -> bureau.companyIs(4, 3));
        Edges.noSuch("what -1", Made::busy, bureau -> bureau.companyIs(-1, -1));
    }

    private static void company(SkyloadBureau bureau, int company, int charged, int outOfWindow, int gone) {
        Edges.equal("charged to " + company, bureau.companyIs(company, CHARGED), charged);
        Edges.equal("out of window of " + company, bureau.companyIs(company, OUT_OF_WINDOW), outOfWindow);
        Edges.equal("gone of " + company, bureau.companyIs(company, GONE), gone);
    }

    private static void p24_is0UntilAFlightGoes() {
        SkyloadBureau bureau = dealt(100, 100);
        company(bureau, 0, 0, 0, 0);
        bureau.message(1, 1, CANCEL, 0);
        company(bureau, 0, 0, 0, 0);
        bureau.message(0, 1, GO, 100);
        company(bureau, 0, 0, 0, 1);
    }

    private static void p24_fiveMinutesAheadAreWithinTheWindow() {
        wentAt(105, 0);
    }

    private static void p24_sixMinutesAheadAreOut() {
        wentAt(104, 1);
    }

    private static void p24_tenMinutesBehindAreWithinTheWindow() {
        wentAt(120, 0);
    }

    private static void p24_elevenMinutesBehindAreOut() {
        wentAt(121, 1);
    }

    private static void p24_theWindowGoesByTheSlotTime() {
        wentAt(110, 0);
        wentAt(100, 1);
        wentAt(0, 1);
        wentAt(1439, 1);
    }

    /** Its slot time is 110, ten minutes behind its planned time. */
    private static void wentAt(int minute, int outOfWindow) {
        SkyloadBureau bureau = dealt(100, 100);
        bureau.message(1, 1, GO, minute);
        company(bureau, 0, 10, outOfWindow, 1);
    }

    private static void p24_withoutASlotTimeItIsNeverOut() {
        int[] minutes = {0, 100, 1439};
        for (int minute : minutes) {
            SkyloadBureau bureau = dealt(100, 100);
            bureau.exempt(1, true);
            bureau.message(1, 1, GO, minute);
            company(bureau, 0, 0, 0, 1);
        }
    }

    private static void p24_isOfThatCompanyAlone() {
        SkyloadBureau bureau = pairOf(1, 3);
        bureau.message(A, 1, GO, 100);
        bureau.message(B, 1, GO, 126);
        company(bureau, 0, 0, 0, 0);
        company(bureau, 1, 10, 0, 1);
        company(bureau, 2, 0, 0, 0);
        company(bureau, 3, 20, 1, 1);
    }

    private static void p24_addsAll24() {
        SkyloadBureau bureau = Made.over(new int[24]);
        bureau.regulation(0, 0, 1440, 0);
        bureau.deal(true);
        for (int i = 0; i < 24; i++) {
            bureau.message(i, 1, GO, 1429 + i % 11);
        }
        company(bureau, 0, 24 * 1440, 14, 24);
    }

    private static void p24_chargesFromThePlannedTimeAsItIs() {
        int[] planned = {0, 109, 110};
        for (int minute : planned) {
            SkyloadBureau bureau = dealt(100, 100);
            bureau.message(1, 1, REPLAN, minute);
            bureau.message(1, 2, GO, 110);
            company(bureau, 0, 110 - minute, 0, 1);
        }
    }

    private static void p24_chargesToTheSwappedSlotTime() {
        SkyloadBureau bureau = swappedPair();
        bureau.message(A, 1, GO, 110);
        company(bureau, 0, 20, 0, 1);
        bureau.message(B, 1, GO, 105);
        company(bureau, 0, 20 + 10, 0, 2);
        Edges.equal("charged to the ruling", bureau.regulationIs(0, 6), 30);
    }

    private static void p24_staysAsItIsWhateverComes() {
        SkyloadBureau bureau = dealt(100, 100);
        bureau.message(1, 1, GO, 104);
        bureau.end(0);
        bureau.regulation(0, 100, 160, 0);
        bureau.deal(true);
        bureau.message(1, 2, REPLAN, 0);
        company(bureau, 0, 10, 1, 1);
        Edges.equal("charged to the ruling", bureau.regulationIs(0, 6), 10);
        Edges.equal("charged to the next one", bureau.regulationIs(1, 6), 0);
    }
}
