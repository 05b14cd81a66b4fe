import java.lang.reflect.Method;
import java.util.TreeSet;
import java.util.function.IntUnaryOperator;

/**
 * For each promise an ordinary run of calls, on one new bureau. The answers are reckoned by hand from the document's
 * sentences, as the comments tell, not by a program.
 */
public final class OrdinaryRunsTest {
    private static final int PROMISES = 24;
    private static final int NONE = SkyloadBureau.NONE;
    private static final int WAITING = SkyloadBureau.WAITING;
    private static final int GONE = SkyloadBureau.GONE;
    private static final int CANCELLED = SkyloadBureau.CANCELLED;
    private static final int REPLAN = SkyloadBureau.REPLAN;
    private static final int CANCEL = SkyloadBureau.CANCEL;
    private static final int GO = SkyloadBureau.GO;

    public static void main(String[] args) {
        everyPromiseHasARun();
        Edges.runAll(OrdinaryRunsTest.class);
    }

    private static void everyPromiseHasARun() {
        TreeSet<String> found = new TreeSet<>();
        for (Method method : OrdinaryRunsTest.class.getDeclaredMethods()) {
            if (method.getName().matches("p[0-9][0-9]_.*")) {
                found.add(method.getName().substring(1, 3));
            }
        }
        for (int promise = 1; promise <= PROMISES; promise++) {
            String number = (promise < 10 ? "0" : "") + promise;
            Check.isTrue("promise " + promise + " has an ordinary run", found.contains(number));
        }
    }

    /** What is answered to 0, 1 and what follows. */
    private static void each(String what, IntUnaryOperator asked, int... due) {
        for (int i = 0; i < due.length; i++) {
            Edges.equal(what + " of " + i, asked.applyAsInt(i), due[i]);
        }
    }

    private static void flightIs(String what, SkyloadBureau bureau, int flight, int... due) {
        each(what + ", flight " + flight, i -> bureau.flightIs(flight, i), due);
    }

    private static void slotTime(String what, SkyloadBureau bureau, int flight, int due, int ruling) {
        Edges.equal(what + ", slot time of " + flight, bureau.flightIs(flight, 2), due);
        Edges.equal(what + ", ruling of " + flight, bureau.flightIs(flight, 3), ruling);
    }

    private static void regulationIs(String what, SkyloadBureau bureau, int regulation, int... due) {
        each(what + ", regulation " + regulation, i -> bureau.regulationIs(regulation, i), due);
    }

    private static void slots(SkyloadBureau bureau, int regulation, int... due) {
        each("slot of " + regulation, i -> bureau.slot(regulation, i), due);
    }

    /** A flight of a company that enters just one sector. */
    private static int over(SkyloadBureau bureau, int company, int planned, int sector, int behind, int stays) {
        int flight = bureau.flight(company, planned);
        bureau.entry(flight, sector, behind, stays);
        return flight;
    }

    /** Five flights over sector 4, at 100, 105, 110, 110 and 130, each by another way. */
    private static SkyloadBureau fiveOverSector4() {
        SkyloadBureau bureau = new SkyloadBureau();
        over(bureau, 0, 100, 4, 0, 10);
        over(bureau, 1, 85, 4, 20, 15);
        over(bureau, 1, 60, 4, 50, 1);
        over(bureau, 2, 99, 4, 11, 30);
        over(bureau, 3, 30, 4, 100, 5);
        return bureau;
    }

    /**
     * Ten flights that enter sector 2 twelve minutes behind their departure, and a regulation there from 600 to 640
     * with the rate 9. 60 k / 9 is 0, 6, 13, 20, 26, 33 and 40, which is no more ahead of the end: the slots are
     * 600-606, 606-613, 613-620, 620-626, 626-633 and 633-640.
     */
    private static SkyloadBureau tenOverSector2() {
        SkyloadBureau bureau = new SkyloadBureau();
        int[] plannedOver = {612, 601, 605, 603, 612, 602, 638, 640, 637, 619};
        for (int time : plannedOver) {
            over(bureau, 0, time - 12, 2, 12, 20);
        }
        bureau.exempt(2, true);
        bureau.message(5, 1, GO, 602);
        bureau.message(9, 1, CANCEL, 0);
        bureau.regulation(2, 600, 640, 9);
        return bureau;
    }

    /**
     * Four flights, planned at 300, 300, 302 and 320, over sector 0 ten minutes behind that (310, 310, 312, 330) and
     * over sector 1 another fifteen behind (325, 325, 327, 345).
     * Regulation 0, sector 0, 310 to 350, slots 310, 320, 330, 340: the penalties are 0, 10, 18 and, as 330 is taken
     * by the third one, 10.
     * Regulation 1, sector 1, 320 to 346, slots 320 and 340: 0, 15, none left so 346 - 327 = 19, and 346 - 345 = 1.
     * Regulation 2, sector 0, 330 to 340, no slots: just the last one is within it, 340 - 330 = 10.
     */
    private static SkyloadBureau fourUnderThreeRegulations() {
        SkyloadBureau bureau = new SkyloadBureau();
        int[] planned = {300, 300, 302, 320};
        for (int minute : planned) {
            int flight = over(bureau, 0, minute, 0, 10, 15);
            bureau.entry(flight, 1, 25, 15);
        }
        bureau.regulation(0, 310, 350, 6);
        bureau.regulation(1, 320, 346, 3);
        bureau.regulation(0, 330, 340, 0);
        return bureau;
    }

    // ---- flights

    private static void p01_aNewBureauHasNothing() {
        SkyloadBureau bureau = new SkyloadBureau();
        Check.noSuch("01 no flight", () -> bureau.flightIs(0, 0));
        Check.noSuch("01 no regulation", () -> bureau.regulationIs(0, 0));
        for (int sector = 0; sector < 6; sector++) {
            Edges.equal("peak of " + sector, bureau.peak(sector, 240), 0);
            Edges.equal("would of " + sector, bureau.would(sector, 0, 1440, 0), 0);
        }
        for (int company = 0; company < 4; company++) {
            Edges.equal("gone of " + company, bureau.companyIs(company, 2), 0);
        }
        Edges.equal("allDue", bureau.allDue(), 0);
        Edges.equal("deal", bureau.deal(true), 0);
        Edges.equal("the first flight", bureau.flight(3, 720), 0);
        Edges.equal("the first regulation", bureau.regulation(3, 700, 800, 10), 0);
        Check.noSuch("01 another one has no flight still", () -> new SkyloadBureau().flightIs(0, 0));
    }

    private static void p02_threeFlights() {
        SkyloadBureau bureau = new SkyloadBureau();
        Edges.equal("the first one", bureau.flight(2, 480), 0);
        Edges.equal("the second one", bureau.flight(0, 1200), 1);
        Edges.equal("one like the first", bureau.flight(2, 480), 2);
        // It waits, is planned at 480, has no slot time and no ruling, and so departs at 480.
        flightIs("told", bureau, 0, WAITING, 480, NONE, NONE, 480, 0, 0, 0);
        flightIs("told", bureau, 1, WAITING, 1200, NONE, NONE, 1200, 0, 0, 0);
        flightIs("told", bureau, 2, WAITING, 480, NONE, NONE, 480, 0, 0, 0);
        bureau.message(0, 1, GO, 480);
        bureau.message(2, 1, GO, 481);
        Edges.equal("company 2 told two", bureau.companyIs(2, 2), 2);
        Edges.equal("company 0 told one that waits", bureau.companyIs(0, 2), 0);
    }

    private static void p03_aFlightThroughThreeSectors() {
        SkyloadBureau bureau = new SkyloadBureau();
        int flight = bureau.flight(1, 480);
        int other = bureau.flight(1, 480);
        Edges.equal("first entry", bureau.entry(flight, 2, 15, 25), 1);
        Edges.equal("second entry", bureau.entry(flight, 5, 40, 15), 2);
        Edges.equal("third entry", bureau.entry(flight, 0, 55, 30), 3);
        Edges.equal("entry of another one", bureau.entry(other, 5, 10, 5), 1);
        Edges.equal("entries", bureau.flightIs(flight, 5), 3);
        Edges.equal("entries of the other one", bureau.flightIs(other, 5), 1);
        Edges.equal("over sector 2", bureau.over(flight, 2), 495);
        Edges.equal("over sector 5", bureau.over(flight, 5), 520);
        Edges.equal("over sector 0", bureau.over(flight, 0), 535);
        // It stays in sector 2 from 495 on for 25 minutes, till 520.
        Edges.equal("inside sector 2 at 519", bureau.inside(2, 519), 1);
        Edges.equal("inside sector 2 at 520", bureau.inside(2, 520), 0);
        Edges.equal("inside sector 5 at 520", bureau.inside(5, 520), 1);
    }

    private static void p04_aFlightIsExemptForAWhile() {
        SkyloadBureau bureau = new SkyloadBureau();
        over(bureau, 0, 600, 1, 10, 20);
        over(bureau, 0, 600, 1, 10, 20);
        // The slots are 610, 630, 650: the second one gets 630, which is 20 behind its 610.
        bureau.regulation(1, 610, 670, 3);
        Edges.equal("minutes dealt", bureau.deal(true), 20);
        slotTime("dealt", bureau, 1, 620, 0);
        Edges.isTrue("it was not exempt", !bureau.exempt(1, true));
        slotTime("exempt", bureau, 1, NONE, NONE);
        Edges.equal("it is", bureau.flightIs(1, 7), 1);
        Edges.equal("it departs as planned", bureau.flightIs(1, 4), 600);
        // Fixed at 610 it takes the slot 610, and the first one gets 630.
        Edges.equal("due of the first one", bureau.due(0), 20);
        Edges.isTrue("it was exempt", bureau.exempt(1, true));
        Edges.isTrue("it was exempt till now", bureau.exempt(1, false));
        Edges.equal("it is no more", bureau.flightIs(1, 7), 0);
        slotTime("no more exempt", bureau, 1, NONE, NONE);
        Edges.equal("due of the first one as before", bureau.due(0), 0);
    }

    private static void p05_whatIsToldOfThreeFlights() {
        SkyloadBureau bureau = new SkyloadBureau();
        over(bureau, 0, 600, 1, 10, 20);
        over(bureau, 0, 600, 1, 10, 20);
        over(bureau, 3, 600, 1, 10, 20);
        // The slots are 610, 625, 640, 655, so the dues are 0, 15 and 30.
        bureau.regulation(1, 610, 670, 4);
        Edges.equal("minutes dealt", bureau.deal(true), 45);
        flightIs("dealt", bureau, 0, WAITING, 600, NONE, NONE, 600, 1, 0, 0);
        flightIs("dealt", bureau, 1, WAITING, 600, 615, 0, 615, 1, 0, 0);
        flightIs("dealt", bureau, 2, WAITING, 600, 630, 0, 630, 1, 0, 0);
        bureau.message(0, 4, REPLAN, 590);
        bureau.exempt(0, true);
        flightIs("planned anew and exempt", bureau, 0, WAITING, 590, NONE, NONE, 590, 1, 4, 1);
        bureau.message(1, 7, GO, 617);
        flightIs("gone", bureau, 1, GONE, 600, 615, 0, 617, 1, 7, 0);
        bureau.message(2, 9, CANCEL, 0);
        flightIs("cancelled", bureau, 2, CANCELLED, 600, 630, 0, 630, 1, 9, 0);
    }

    private static void p06_timesOverMoveWithTheDeparture() {
        SkyloadBureau bureau = new SkyloadBureau();
        int flight = over(bureau, 0, 700, 3, 30, 20);
        bureau.entry(flight, 0, 50, 10);
        Edges.equal("planned, over 3", bureau.over(flight, 3), 730);
        Edges.equal("planned, over 0", bureau.over(flight, 0), 750);
        Edges.equal("it does not enter 5", bureau.over(flight, 5), NONE);
        bureau.message(flight, 1, REPLAN, 710);
        Edges.equal("planned anew, over 3", bureau.over(flight, 3), 740);
        // No flight over sector 0 from 750 to 800: planned over it at 760, it is due 40 minutes.
        bureau.regulation(0, 750, 800, 0);
        bureau.deal(true);
        Edges.equal("with a slot time, over 3", bureau.over(flight, 3), 780);
        Edges.equal("with a slot time, over 0", bureau.over(flight, 0), 800);
        bureau.message(flight, 2, GO, 748);
        Edges.equal("gone, over 3", bureau.over(flight, 3), 778);
        Edges.equal("gone, over 0", bureau.over(flight, 0), 798);
    }

    // ---- loads

    private static void p07_loadsOfWindows() {
        SkyloadBureau bureau = fiveOverSector4();
        Edges.equal("100 and 105, not 110", bureau.load(4, 100, 10), 2);
        Edges.equal("both at 110 more", bureau.load(4, 100, 11), 4);
        Edges.equal("105 and both at 110", bureau.load(4, 101, 20), 3);
        Edges.equal("130", bureau.load(4, 111, 60), 1);
        Edges.equal("all", bureau.load(4, 0, 240), 5);
        Edges.equal("another sector", bureau.load(3, 0, 240), 0);
        bureau.message(2, 1, CANCEL, 0);
        Edges.equal("one at 110 is cancelled", bureau.load(4, 101, 20), 2);
        // Gone at 130 and 100 minutes from sector 4 it is over that at 230.
        bureau.message(4, 1, GO, 130);
        Edges.equal("130 is no more", bureau.load(4, 111, 60), 0);
        Edges.equal("but 230", bureau.load(4, 230, 1), 1);
    }

    private static void p08_thoseInside() {
        SkyloadBureau bureau = fiveOverSector4();
        // They are inside from 100 to 110, 105 to 120, 110 to 111, 110 to 140 and 130 to 135.
        int[] minutes = {99, 100, 104, 105, 109, 110, 111, 119, 120, 130, 134, 135, 139, 140};
        each("by minutes", i -> bureau.inside(4, minutes[i]), 0, 1, 1, 2, 2, 3, 2, 2, 1, 2, 2, 1, 1, 0);
        bureau.message(3, 1, CANCEL, 0);
        Edges.equal("one is cancelled", bureau.inside(4, 139), 0);
        bureau.message(0, 1, GO, 125);
        Edges.equal("one went late, inside from 125 to 135", bureau.inside(4, 131), 2);
    }

    private static void peaksOfFive(boolean anew) {
        SkyloadBureau bureau = fiveOverSector4();
        // Over the sector at 100, 105, 110, 110 and 130: both at 110; 105 too, from 5 minutes behind; and so on.
        int[] widths = {1, 5, 6, 10, 11, 21, 25, 26, 30, 31, 240};
        each("by widths", i -> peak(bureau, anew, widths[i]), 2, 2, 3, 3, 4, 4, 4, 4, 4, 5, 5);
        bureau.message(2, 1, CANCEL, 0);
        Edges.equal("one at 110 is cancelled", peak(bureau, anew, 1), 1);
        // It goes 14 minutes late and is over the sector at 114: 105, 110, 114 within ten minutes.
        bureau.message(0, 1, GO, 114);
        Edges.equal("one went late", peak(bureau, anew, 10), 3);
        Edges.equal("one went late, nine minutes", peak(bureau, anew, 9), 2);
    }

    private static int peak(SkyloadBureau bureau, boolean anew, int width) {
        return anew ? bureau.peakAnew(4, width) : bureau.peak(4, width);
    }

    private static void p09_peaksOfWindows() {
        peaksOfFive(false);
    }

    private static void p10_peaksOfWindowsThatBeginAsOneEnters() {
        peaksOfFive(true);
    }

    // ---- regulations

    private static void p11_regulationsOfThreeSectors() {
        SkyloadBureau bureau = new SkyloadBureau();
        over(bureau, 0, 600, 1, 10, 20);
        over(bureau, 0, 600, 2, 10, 20);
        Edges.equal("the first one", bureau.regulation(1, 600, 660, 2), 0);
        Edges.equal("the second one", bureau.regulation(2, 600, 630, 0), 1);
        Edges.equal("one of the same sector", bureau.regulation(1, 500, 600, 30), 2);
        // Slots 600-630 and 630-660; none; every two minutes from 500 to 600: 50.
        regulationIs("told", bureau, 0, 2, 1, 0, 1, 0, 2, 0);
        regulationIs("told", bureau, 1, 0, 0, 0, 1, 1, 0, 0);
        regulationIs("told", bureau, 2, 50, 50, 0, 0, 0, 30, 0);
        // The first one flies into a slot that has begun, the second one waits from 610 to 630.
        Edges.equal("due of the first one", bureau.due(0), 0);
        Edges.equal("due of the second one", bureau.due(1), 20);
        slotTime("nothing is dealt by that", bureau, 1, NONE, NONE);
    }

    private static void p12_aRateToldAnewTwice() {
        SkyloadBureau bureau = new SkyloadBureau();
        for (int i = 0; i < 3; i++) {
            over(bureau, 0, 600, 1, 10, 20);
        }
        bureau.regulation(1, 610, 670, 3);
        // Every 20 minutes a slot: dues 0, 20 and 40.
        Edges.equal("all due by 3", bureau.allDue(), 60);
        Edges.equal("the rate before", bureau.rate(0, 6), 3);
        Edges.equal("the rate now", bureau.regulationIs(0, 5), 6);
        Edges.equal("all due by 6: 0, 10 and 20", bureau.allDue(), 30);
        Edges.equal("slots", bureau.regulationIs(0, 0), 6);
        bureau.deal(true);
        Edges.equal("the rate before that", bureau.rate(0, 2), 6);
        // The slots are 610 and 640; the third one has to wait for the end at 670.
        Edges.equal("all due by 2: 0, 30 and 60", bureau.allDue(), 90);
        slotTime("till the next deal", bureau, 2, 620, 0);
    }

    private static void p13_aRegulationIsEnded() {
        SkyloadBureau bureau = new SkyloadBureau();
        over(bureau, 0, 600, 1, 10, 20);
        bureau.regulation(1, 600, 640, 0);
        bureau.regulation(1, 605, 620, 0);
        // 30 minutes by the first one, 10 by the second one.
        Edges.equal("dealt", bureau.deal(true), 30);
        slotTime("dealt", bureau, 0, 630, 0);
        bureau.end(0);
        slotTime("ended", bureau, 0, 630, 0);
        Edges.equal("due by the second one now", bureau.due(0), 10);
        regulationIs("ended", bureau, 0, 0, 0, 0, 0, 0, 0, 0);
        regulationIs("the other one", bureau, 1, 0, 0, 0, 1, 1, 0, 0);
        Check.badState("13 ended twice", () -> bureau.end(0));
        Edges.equal("dealt anew", bureau.deal(true), 10);
        slotTime("dealt anew", bureau, 0, 610, 1);
    }

    private static void p14_whatIsToldOfARegulation() {
        SkyloadBureau bureau = tenOverSector2();
        // All six slots are taken by 2 fixed and 4 listed ones; the flights 8 and 6 get none.
        regulationIs("dealt", bureau, 0, 6, 0, 2, 6, 2, 9, 0);
        // From 640 to 1440 with the rate 12 there is a slot each five minutes; just the flight 7 takes one, at 640.
        bureau.regulation(2, 640, 1440, 12);
        regulationIs("another one", bureau, 1, 160, 159, 0, 1, 0, 12, 0);
        bureau.deal(true);
        // Flight 3 waits from 591 to 608, flight 1 from 589 to 594.
        bureau.message(3, 1, GO, 610);
        bureau.message(1, 1, GO, 590);
        Edges.equal("17 and 5 minutes are charged", bureau.regulationIs(0, 6), 22);
        Edges.equal("none to the other one", bureau.regulationIs(1, 6), 0);
        // Now over the sector at 622 and 602, both are fixed there.
        Edges.equal("fixed", bureau.regulationIs(0, 2), 4);
        Edges.equal("listed", bureau.regulationIs(0, 3), 4);
        bureau.end(0);
        regulationIs("ended", bureau, 0, 0, 0, 0, 0, 0, 9, 22);
    }

    private static void p14_fixedOnesWithoutASlot() {
        SkyloadBureau bureau = new SkyloadBureau();
        int[] times = {605, 615, 600, 618};
        for (int time : times) {
            over(bureau, 0, time - 10, 1, 10, 20);
        }
        bureau.exempt(0, true);
        bureau.exempt(1, true);
        bureau.message(3, 1, GO, 609);
        // The slots are 600-610 and 610-620: the exempt ones take them, for the one at 619 and the listed one, planned
        // over the sector at 600, there is none.
        bureau.regulation(1, 600, 620, 6);
        regulationIs("dealt", bureau, 0, 2, 0, 3, 1, 1, 6, 0);
        Edges.equal("it waits for the end", bureau.penalty(2, 0), 20);
        // By the rate 12 the slots are 600-605, 605-610, 610-615 and 615-620: the one at 605 takes the second slot, the
        // one at 615 the fourth, the one at 619 none, the listed one the first.
        bureau.rate(0, 12);
        regulationIs("dealt by 12", bureau, 0, 4, 1, 3, 1, 0, 12, 0);
        Edges.equal("it waits no more", bureau.penalty(2, 0), 0);
        bureau.rate(0, 0);
        regulationIs("dealt by 0", bureau, 0, 0, 0, 3, 1, 1, 0, 0);
    }

    private static void p15_slotsOfUnevenRates() {
        SkyloadBureau bureau = new SkyloadBureau();
        // 60 k / 7 is 0, 8, 17, 25, 34 and 42, rounded down.
        bureau.regulation(0, 600, 640, 7);
        slots(bureau, 0, 600, 608, 617, 625, 634, NONE, NONE);
        // 60 k / 45 is 0, 1, 2, 4, 5, 6, 8.
        bureau.regulation(1, 30, 37, 45);
        slots(bureau, 1, 30, 31, 32, 34, 35, 36, NONE);
        bureau.regulation(2, 500, 620, 1);
        slots(bureau, 2, 500, 560, NONE);
        bureau.regulation(3, 0, 1440, 0);
        slots(bureau, 3, NONE, NONE);
        bureau.rate(0, 2);
        slots(bureau, 0, 600, 630, NONE);
        bureau.end(1);
        slots(bureau, 1, NONE, NONE);
    }

    private static void p16_penaltiesOfTenFlights() {
        SkyloadBureau bureau = tenOverSector2();
        // Fixed are 2, exempt and planned over the sector at 605, and 5, gone and over it at 614: they take the slots
        // 600-606 and 613-620. Listed are 1 at 601, 3 at 603, 0 and 4 at 612, 8 at 637 and 6 at 638, in this order.
        // 1 takes 606, so 5 minutes; 3 takes 620, so 17; 0 takes 626, so 14; 4 takes 633, so 21; for 8 and 6 there
        // is none left: the end, 640, is 3 and 2 minutes behind them. 7 is over the sector just at the end.
        each("penalty", flight -> bureau.penalty(flight, 0), 14, 5, NONE, 17, 21, NONE, 2, NONE, 3, NONE);
        Edges.equal("all due", bureau.allDue(), 14 + 5 + 17 + 21 + 2 + 3);
        // Without the exempt one the flight 1 is in the slot 600-606 at once, 3 takes 606, 2 620, 0 626, 4 633.
        bureau.exempt(2, false);
        each("penalty then", flight -> bureau.penalty(flight, 0), 14, 0, 15, 3, 21, NONE, 2, NONE, 3, NONE);
    }

    private static void p16_p17_p18_flightsJustAsASlotEnds() {
        SkyloadBureau bureau = new SkyloadBureau();
        for (int i = 0; i < 3; i++) {
            over(bureau, 0, 590, 1, 20, 20);
        }
        bureau.regulation(1, 600, 640, 6);
        // 600-610 ends as they are over the sector, at 610: they take 610, 620 and 630.
        each("penalty", flight -> bureau.penalty(flight, 0), 0, 10, 20);
        each("due", bureau::due, 0, 10, 20);
        each("dueAnew", bureau::dueAnew, 0, 10, 20);
        Edges.equal("the slot 600 stays free", bureau.regulationIs(0, 1), 1);
    }

    private static void p17_duesByThreeRegulations() {
        SkyloadBureau bureau = fourUnderThreeRegulations();
        each("due", bureau::due, 0, 15, 19, 10);
        bureau.end(1);
        each("due then", bureau::due, 0, 10, 18, 10);
        bureau.message(1, 1, GO, 300);
        Edges.equal("one that is gone is due nothing", bureau.due(1), 0);
    }

    private static void p18_duesFoundBySlots() {
        SkyloadBureau bureau = fourUnderThreeRegulations();
        each("dueAnew", bureau::dueAnew, 0, 15, 19, 10);
        // The exempt one takes the slots 310 and 320 (of sector 1) first. Flight 0 then gets 320 and 340: 10 and 15;
        // flight 2 gets 330 and none, as before; flight 3 gets 340 and none, as before.
        bureau.exempt(1, true);
        each("dueAnew then", bureau::dueAnew, 15, 0, 19, 10);
        // Two exempt ones take 310 and 320, and both slots of sector 1: flight 2 gets 330, and for both that are left
        // there is none in sector 1. Without regulation 2 the flight 3 waits by regulation 0 for the slot 340.
        bureau.exempt(0, true);
        bureau.end(2);
        each("dueAnew at last", bureau::dueAnew, 0, 0, 19, 10);
        // One that went at 325 is over sector 0 at 335 and takes 330: flight 2 gets 320, as just one is exempt.
        bureau.exempt(0, false);
        bureau.message(0, 1, GO, 325);
        bureau.end(1);
        each("dueAnew as one is gone", bureau::dueAnew, 0, 0, 8, 10);
    }

    private static void p19_allDuesTogether() {
        SkyloadBureau bureau = fourUnderThreeRegulations();
        Edges.equal("0 + 15 + 19 + 10", bureau.allDue(), 44);
        bureau.end(1);
        Edges.equal("0 + 10 + 18 + 10", bureau.allDue(), 38);
        // Without the flight 2 the slot 330 is free for the flight 3, but regulation 2 still rules it.
        bureau.message(2, 1, CANCEL, 0);
        Edges.equal("0 + 10 + 10", bureau.allDue(), 20);
        bureau.end(2);
        Edges.equal("0 + 10 + 0", bureau.allDue(), 10);
    }

    private static void p20_whatARegulationMoreWouldDo() {
        SkyloadBureau bureau = fourUnderThreeRegulations();
        Edges.equal("of a sector that none enters", bureau.would(5, 0, 1440, 0), 44);
        // Over sector 0 at 310, 310 and 312 three of them would wait for 320: 10, 10 and 8 minutes.
        Edges.equal("10 + 15 + 19 + 10", bureau.would(0, 300, 320, 0), 54);
        // Over sector 1 at 345 the last one would wait for 1440: 1095 minutes.
        Edges.equal("0 + 15 + 19 + 1095", bureau.would(1, 340, 1440, 0), 1129);
        // With slots 345 and 375 the last one just flies into its own.
        Edges.equal("as it is", bureau.would(1, 345, 400, 2), 44);
        Edges.equal("nothing changed", bureau.allDue(), 44);
        Edges.equal("the next one's number", bureau.regulation(0, 300, 320, 0), 3);
        Edges.equal("what it would do, it does", bureau.allDue(), 54);
    }

    // ---- deals, swaps and messages

    private static void p21_dealsByThreeRegulations() {
        SkyloadBureau bureau = fourUnderThreeRegulations();
        Edges.equal("0 + 15 + 19 + 10", bureau.deal(false), 44);
        slotTime("dealt", bureau, 0, NONE, NONE);
        slotTime("dealt", bureau, 1, 315, 1);
        slotTime("dealt", bureau, 2, 321, 1);
        // Regulations 0 and 2 both ask for 10 minutes: the lower one rules.
        slotTime("dealt", bureau, 3, 330, 0);
    }

    private static void p21_worsensJustWhereAllowed() {
        SkyloadBureau bureau = fourUnderThreeRegulations();
        bureau.deal(false);
        // By the rate 3 the slots of sector 0 are 310 and 330: 0, 20, none left so 350 - 312 = 38, and 20.
        bureau.rate(0, 3);
        Edges.equal("not worsened", bureau.deal(false), 44);
        slotTime("kept", bureau, 2, 321, 1);
        slotTime("kept", bureau, 3, 330, 0);
        Edges.equal("worsened: 20 + 38 + 20", bureau.deal(true), 78);
        slotTime("worsened", bureau, 1, 320, 0);
        slotTime("worsened", bureau, 2, 340, 0);
        slotTime("worsened", bureau, 3, 340, 0);
        // By the rate 12 the slots of sector 0 are 310, 315, 320 and so on: 0, 5, 8 and 0 there.
        bureau.rate(0, 12);
        Edges.equal("bettered also so: 15 + 19 + 10", bureau.deal(false), 44);
        slotTime("bettered", bureau, 1, 315, 1);
        slotTime("bettered", bureau, 2, 321, 1);
        slotTime("bettered", bureau, 3, 330, 2);
        for (int regulation = 0; regulation < 3; regulation++) {
            bureau.end(regulation);
        }
        Edges.equal("all ended", bureau.deal(false), 0);
        slotTime("all ended", bureau, 2, NONE, NONE);
    }

    private static void p21_theRegulationThatIsDueNowRules() {
        SkyloadBureau bureau = new SkyloadBureau();
        over(bureau, 0, 600, 1, 10, 20);
        bureau.regulation(1, 600, 630, 0);
        Edges.equal("dealt", bureau.deal(false), 20);
        slotTime("dealt", bureau, 0, 620, 0);
        bureau.end(0);
        bureau.regulation(1, 600, 635, 0);
        // 625 is later than 620: it keeps that, and its ended ruling.
        Edges.equal("not worsened", bureau.deal(false), 20);
        slotTime("not worsened", bureau, 0, 620, 0);
        bureau.end(1);
        bureau.regulation(1, 600, 630, 0);
        // 620 is not later than 620: the regulation that is due now rules.
        Edges.equal("just as late", bureau.deal(false), 20);
        slotTime("just as late", bureau, 0, 620, 2);
    }

    private static void p22_twoFlightsOfOneCompanySwap() {
        SkyloadBureau bureau = new SkyloadBureau();
        over(bureau, 1, 500, 3, 20, 10);
        over(bureau, 1, 480, 3, 41, 10);
        over(bureau, 1, 510, 3, 12, 10);
        over(bureau, 2, 513, 3, 10, 10);
        // Over sector 3 at 520, 521, 522 and 523, with the slots 520, 530, 540 and 550: the dues are 0, 9, 18, 27.
        bureau.regulation(3, 520, 560, 6);
        Edges.equal("0 + 9 + 18 + 27", bureau.deal(true), 54);
        slotTime("dealt", bureau, 1, 489, 0);
        slotTime("dealt", bureau, 2, 528, 0);
        bureau.swap(1, 2);
        // The one 41 minutes ahead of the sector is to be there at 540, the one 12 minutes ahead at 530.
        slotTime("swapped", bureau, 1, 499, 0);
        slotTime("swapped", bureau, 2, 518, 0);
        Edges.equal("over the sector", bureau.over(1, 3), 540);
        Edges.equal("over the sector", bureau.over(2, 3), 530);
        Check.badState("22 of two companies", () -> bureau.swap(2, 3));
        Check.badState("22 without a slot time", () -> bureau.swap(0, 2));
        // Planned at 515 it could be over the sector at 527 at the earliest, and is at 530 still.
        bureau.message(2, 1, REPLAN, 515);
        bureau.swap(2, 1);
        slotTime("swapped back", bureau, 1, 489, 0);
        slotTime("swapped back", bureau, 2, 528, 0);
        // Planned at 519, the slot time 518 would be ahead of that.
        bureau.message(2, 2, REPLAN, 519);
        Check.badState("22 ahead of the planned time", () -> bureau.swap(1, 2));
        slotTime("not swapped", bureau, 2, 528, 0);
    }

    private static void p23_messagesThatComeLateOrDoubled() {
        SkyloadBureau bureau = new SkyloadBureau();
        over(bureau, 0, 600, 1, 10, 20);
        bureau.regulation(1, 600, 640, 0);
        bureau.deal(true);
        slotTime("dealt", bureau, 0, 630, 0);
        Edges.isTrue("planned earlier", bureau.message(0, 10, REPLAN, 590));
        flightIs("planned earlier", bureau, 0, WAITING, 590, 630, 0, 630, 1, 10, 0);
        Edges.isTrue("the same, doubled", !bureau.message(0, 10, REPLAN, 590));
        Edges.isTrue("one that comes late", !bureau.message(0, 9, CANCEL, 0));
        flightIs("as before", bureau, 0, WAITING, 590, 630, 0, 630, 1, 10, 0);
        Edges.isTrue("planned behind its slot time", bureau.message(0, 12, REPLAN, 650));
        flightIs("without that", bureau, 0, WAITING, 650, NONE, NONE, 650, 1, 12, 0);
        Edges.isTrue("gone", bureau.message(0, 20, GO, 655));
        flightIs("gone", bureau, 0, GONE, 650, NONE, NONE, 655, 1, 20, 0);
        Edges.isTrue("it takes no more", !bureau.message(0, 21, CANCEL, 0));
        flightIs("gone still", bureau, 0, GONE, 650, NONE, NONE, 655, 1, 20, 0);
        bureau.flight(0, 700);
        Edges.isTrue("another one has numbers of its own", bureau.message(1, 1, CANCEL, 0));
        flightIs("cancelled", bureau, 1, CANCELLED, 700, NONE, NONE, 700, 0, 1, 0);
        Edges.isTrue("it does not go any more", !bureau.message(1, 2, GO, 700));
    }

    private static void p24_delaysAreChargedToCompanies() {
        SkyloadBureau bureau = new SkyloadBureau();
        int[] companies = {0, 0, 1, 1, 2};
        for (int company : companies) {
            over(bureau, company, 600, 1, 10, 20);
        }
        // The slots are 610, 622, 634, 646, 658: the slot times are none, 612, 624, 636 and 648.
        bureau.regulation(1, 610, 670, 5);
        Edges.equal("0 + 12 + 24 + 36 + 48", bureau.deal(true), 120);
        bureau.message(0, 1, GO, 650);
        bureau.message(1, 1, GO, 607);
        bureau.message(2, 1, GO, 635);
        bureau.message(3, 1, GO, 630);
        bureau.message(4, 1, CANCEL, 0);
        // The first one had no slot time; 607 is 5 ahead of 612, 635 is 11 behind 624, 630 is 6 ahead of 636.
        each("charged", company -> bureau.companyIs(company, 0), 12, 24 + 36, 0, 0);
        each("out of window", company -> bureau.companyIs(company, 1), 0, 2, 0, 0);
        each("gone", company -> bureau.companyIs(company, 2), 2, 2, 0, 0);
        Edges.equal("the same is charged to the regulation", bureau.regulationIs(0, 6), 72);
    }

    private static void p24_chargesAreByTheTimesAsItGoes() {
        SkyloadBureau bureau = new SkyloadBureau();
        over(bureau, 3, 600, 1, 10, 20);
        bureau.regulation(1, 600, 640, 0);
        bureau.deal(true);
        // Planned at 620 its slot time 630 is just 10 minutes behind that.
        bureau.message(0, 1, REPLAN, 620);
        bureau.end(0);
        bureau.message(0, 2, GO, 633);
        Edges.equal("charged to the company", bureau.companyIs(3, 0), 10);
        Edges.equal("charged to the ended regulation", bureau.regulationIs(0, 6), 10);
        bureau.deal(true);
        Edges.equal("charged for ever", bureau.companyIs(3, 0), 10);
        Edges.equal("gone", bureau.companyIs(3, 2), 1);
    }
}
