/** Promises 7 to 10, sentence by sentence: each end of a range, the empty and the full case, each refused call. */
public final class LoadEdgesTest {
    private static final int CANCEL = SkyloadBureau.CANCEL;
    private static final int GO = SkyloadBureau.GO;

    public static void main(String[] args) {
        Edges.runAll(LoadEdgesTest.class);
    }

    /** All 24 flights over sector 0 at the same minute. */
    private static SkyloadBureau crowded(int minute) {
        int[] minutes = new int[24];
        for (int i = 0; i < minutes.length; i++) {
            minutes[i] = minute;
        }
        return Made.over(minutes);
    }

    /** One flight over sector 1 at 2040, the last minute that there can be. */
    private static SkyloadBureau latest() {
        SkyloadBureau bureau = Made.over(1439);
        bureau.entry(0, 1, 600, 120);
        bureau.regulation(0, 1439, 1440, 0);
        bureau.deal(true);
        return bureau;
    }

    // ---- promise 7: load

    private static void p07_sectorIs0To5() {
        Edges.numbers(0, 5, Made::busy, (bureau, sector) -> bureau.load(sector, 600, 60));
    }

    private static void p07_fromIs0To2999() {
        Edges.arguments(0, 2999, Made::busy, (bureau, from) -> bureau.load(0, from, 60));
    }

    private static void p07_widthIs1To240() {
        Edges.arguments(1, 240, Made::busy, (bureau, width) -> bureau.load(0, 600, width));
    }

    private static void p07_sectorComesAheadOfFromAndWidth() {
        Edges.noSuch("from -1", Made::busy, bureau -> bureau.load(6, -1, 60));
        Edges.noSuch("width 0", Made::busy, bureau -> bureau.load(-1, 600, 0));
    }

    private static void p07_countsFromTheBeginningOn() {
        SkyloadBureau bureau = Made.over(100);
        Edges.equal("at the beginning", bureau.load(0, 100, 10), 1);
        Edges.equal("a minute ahead of it", bureau.load(0, 101, 10), 0);
    }

    private static void p07_countsAheadOfTheEnd() {
        SkyloadBureau bureau = Made.over(100);
        Edges.equal("the last minute", bureau.load(0, 91, 10), 1);
        Edges.equal("the end itself", bureau.load(0, 90, 10), 0);
    }

    private static void p07_theNarrowestWindowIsOneMinute() {
        SkyloadBureau bureau = Made.over(99, 100, 101);
        Edges.equal("that minute", bureau.load(0, 100, 1), 1);
    }

    private static void p07_theWidestWindowIs240Minutes() {
        SkyloadBureau bureau = Made.over(99, 100, 339, 340);
        Edges.equal("those minutes", bureau.load(0, 100, 240), 2);
    }

    private static void p07_theFirstWindowCountsMinute0() {
        Edges.equal("minute 0", Made.over(0).load(0, 0, 1), 1);
    }

    private static void p07_countsUpToTheLatestMinute() {
        SkyloadBureau bureau = latest();
        Edges.equal("just there", bureau.load(1, 2040, 1), 1);
        Edges.equal("a window that ends behind it", bureau.load(1, 1801, 240), 1);
        Edges.equal("a window that ends at it", bureau.load(1, 1800, 240), 0);
        Edges.equal("a window behind it", bureau.load(1, 2041, 240), 0);
    }

    private static void p07_theLastWindowIsEmpty() {
        Edges.equal("from 2999", latest().load(1, 2999, 240), 0);
    }

    private static void p07_countsNoFlightAndAll24() {
        Edges.equal("flights without entries", Made.fullOfFlights().load(0, 0, 240), 0);
        Edges.equal("all 24", crowded(1439).load(0, 1439, 1), 24);
    }

    private static void p07_doesNotCountCancelledOnes() {
        SkyloadBureau bureau = Made.over(100, 100);
        bureau.message(0, 1, CANCEL, 0);
        Edges.equal("one of two", bureau.load(0, 100, 1), 1);
        bureau.message(1, 1, CANCEL, 0);
        Edges.equal("none of two", bureau.load(0, 100, 1), 0);
    }

    private static void p07_countsEveryOtherOneByItsTimeOver() {
        SkyloadBureau bureau = Made.busy();
        Edges.equal("exempt, by its planned time", bureau.load(0, 610, 1), 1);
        Edges.equal("with a slot time", bureau.load(0, 620, 1), 1);
        Edges.equal("with another slot time", bureau.load(0, 630, 1), 1);
        Edges.equal("gone, by its slot time", bureau.load(0, 640, 1), 0);
        Edges.equal("gone", bureau.load(0, 651, 1), 1);
        Edges.equal("all of them", bureau.load(0, 600, 240), 4);
    }

    // ---- promise 8: inside

    private static void p08_sectorIs0To5() {
        Edges.numbers(0, 5, Made::busy, (bureau, sector) -> bureau.inside(sector, 620));
    }

    private static void p08_minuteIs0To2999() {
        Edges.arguments(0, 2999, Made::busy, (bureau, minute) -> bureau.inside(0, minute));
    }

    private static void p08_sectorComesAheadOfMinute() {
        Edges.noSuch("minute 3000", Made::busy, bureau -> bureau.inside(6, 3000));
        Edges.noSuch("minute -1", Made::busy, bureau -> bureau.inside(-1, -1));
    }

    private static void p08_isInsideFromTheTimeOverOn() {
        SkyloadBureau bureau = Made.over(100);
        Edges.equal("a minute ahead", bureau.inside(0, 99), 0);
        Edges.equal("that minute", bureau.inside(0, 100), 1);
    }

    private static void p08_isOutAsItHasStayedAsLongAsTold() {
        SkyloadBureau bureau = Made.over(100);
        Edges.equal("the last minute", bureau.inside(0, 119), 1);
        Edges.equal("20 minutes later", bureau.inside(0, 120), 0);
    }

    private static void p08_oneThatStaysOneMinute() {
        SkyloadBureau bureau = Made.planned(0);
        bureau.entry(0, 0, 0, 1);
        Edges.equal("that minute, 0", bureau.inside(0, 0), 1);
        Edges.equal("the next one", bureau.inside(0, 1), 0);
    }

    private static void p08_theLatestMinuteInside() {
        SkyloadBureau bureau = latest();
        Edges.equal("the first one", bureau.inside(1, 2040), 1);
        Edges.equal("the last one", bureau.inside(1, 2159), 1);
        Edges.equal("behind it", bureau.inside(1, 2160), 0);
        Edges.equal("the last that can be asked for", bureau.inside(1, 2999), 0);
    }

    private static void p08_countsNoFlightAndAll24() {
        Edges.equal("flights without entries", Made.fullOfFlights().inside(0, 0), 0);
        SkyloadBureau bureau = crowded(0);
        Edges.equal("all 24", bureau.inside(0, 0), 24);
        Edges.equal("all 24 at last", bureau.inside(0, 19), 24);
        Edges.equal("none any more", bureau.inside(0, 20), 0);
    }

    private static void p08_mayBeInsideTwoSectors() {
        SkyloadBureau bureau = Made.over(100);
        bureau.entry(0, 1, 10, 20);
        Edges.equal("the one", bureau.inside(0, 110), 1);
        Edges.equal("the other one", bureau.inside(1, 110), 1);
    }

    private static void p08_doesNotCountCancelledOnes() {
        SkyloadBureau bureau = Made.over(100, 100);
        bureau.message(0, 1, CANCEL, 0);
        Edges.equal("one of two", bureau.inside(0, 100), 1);
    }

    private static void p08_countsEveryOtherOneByItsTimeOver() {
        SkyloadBureau bureau = Made.busy();
        Edges.equal("exempt, by its planned time", bureau.inside(0, 610), 1);
        Edges.equal("with a slot time too", bureau.inside(0, 620), 2);
        Edges.equal("the exempt one is out", bureau.inside(0, 630), 2);
        Edges.equal("all slot times are out", bureau.inside(0, 650), 0);
        Edges.equal("gone", bureau.inside(0, 651), 1);
    }

    // ---- promises 9 and 10: peak, peakAnew

    private static void bothPeaks(String what, SkyloadBureau bureau, int sector, int width, int due) {
        Edges.equal("peak, " + what, bureau.peak(sector, width), due);
        Edges.equal("peakAnew, " + what, bureau.peakAnew(sector, width), due);
    }

    private static void p09_sectorIs0To5() {
        Edges.numbers(0, 5, Made::busy, (bureau, sector) -> bureau.peak(sector, 60));
    }

    private static void p09_widthIs1To240() {
        Edges.arguments(1, 240, Made::busy, (bureau, width) -> bureau.peak(0, width));
    }

    private static void p09_sectorComesAheadOfWidth() {
        Edges.noSuch("width 0", Made::busy, bureau -> bureau.peak(6, 0));
        Edges.noSuch("width 241", Made::busy, bureau -> bureau.peak(-1, 241));
    }

    private static void p10_sectorIs0To5() {
        Edges.numbers(0, 5, Made::busy, (bureau, sector) -> bureau.peakAnew(sector, 60));
    }

    private static void p10_widthIs1To240() {
        Edges.arguments(1, 240, Made::busy, (bureau, width) -> bureau.peakAnew(0, width));
    }

    private static void p10_sectorComesAheadOfWidth() {
        Edges.noSuch("width 0", Made::busy, bureau -> bureau.peakAnew(6, 0));
        Edges.noSuch("width 241", Made::busy, bureau -> bureau.peakAnew(-1, 241));
    }

    private static void p09_p10_is0WithoutFlights() {
        bothPeaks("no flights", new SkyloadBureau(), 0, 240, 0);
        bothPeaks("no entries", Made.fullOfFlights(), 0, 240, 0);
        bothPeaks("another sector", crowded(100), 1, 240, 0);
    }

    private static void p09_p10_is24AtMost() {
        bothPeaks("in one minute", crowded(100), 0, 1, 24);
        bothPeaks("in the widest window", crowded(100), 0, 240, 24);
    }

    private static void p09_p10_aWindowHoldsItsWidth() {
        SkyloadBureau bureau = Made.over(100, 110);
        bothPeaks("just as far as that", bureau, 0, 10, 1);
        bothPeaks("a minute wider", bureau, 0, 11, 2);
    }

    private static void p09_p10_theNarrowestWindow() {
        bothPeaks("next to each other", Made.over(100, 101), 0, 1, 1);
        bothPeaks("at the same minute", Made.over(100, 100), 0, 1, 2);
    }

    private static void p09_p10_theWidestWindow() {
        bothPeaks("240 minutes apart", Made.over(100, 340), 0, 240, 1);
        bothPeaks("239 minutes apart", Made.over(100, 339), 0, 240, 2);
    }

    private static void p09_p10_theFirstWindow() {
        bothPeaks("one at 0", Made.over(0), 0, 1, 1);
        bothPeaks("from 0 on", Made.over(0, 9, 10), 0, 10, 2);
    }

    private static void p09_p10_theLatestMinute() {
        bothPeaks("one at 2040", latest(), 1, 1, 1);
        SkyloadBureau bureau = latest();
        bureau.flight(0, 1439);
        bureau.entry(1, 1, 599, 1);
        bothPeaks("one at 2038 too, narrow", bureau, 1, 2, 1);
        bothPeaks("one at 2038 too", bureau, 1, 3, 2);
    }

    private static void p09_p10_theGreatestIsNeitherTheFirstNorTheLast() {
        SkyloadBureau bureau = Made.over(100, 200, 201, 202, 300, 301);
        bothPeaks("in the middle", bureau, 0, 5, 3);
    }

    private static void p09_p10_theGreatestBeginsAtALaterFlight() {
        SkyloadBureau bureau = Made.over(100, 108, 109, 112);
        bothPeaks("not by the first one", bureau, 0, 5, 3);
    }

    private static void p09_p10_doesNotCountCancelledOnes() {
        SkyloadBureau bureau = Made.over(100, 101, 102);
        bureau.message(1, 1, CANCEL, 0);
        bothPeaks("two of three", bureau, 0, 3, 2);
        bureau.message(0, 1, CANCEL, 0);
        bureau.message(2, 1, CANCEL, 0);
        bothPeaks("none of three", bureau, 0, 3, 0);
    }

    private static void p09_p10_followsTheTimesOver() {
        SkyloadBureau bureau = Made.over(100, 100);
        bureau.message(0, 1, GO, 90);
        bothPeaks("gone earlier", bureau, 0, 10, 1);
        bureau.regulation(0, 100, 109, 0);
        bureau.deal(true);
        bothPeaks("with a slot time", bureau, 0, 19, 1);
        bothPeaks("with a slot time, wider", bureau, 0, 20, 2);
    }
}
