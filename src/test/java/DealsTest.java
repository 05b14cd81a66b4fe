/** Promises 21 to 24: deal, swap, message, companyIs. */
public final class DealsTest {
    private static final int REPLAN = SkyloadBureau.REPLAN;
    private static final int CANCEL = SkyloadBureau.CANCEL;
    private static final int GO = SkyloadBureau.GO;

    public static void main(String[] args) {
        dealGivesSlotTimes();
        dealWorsensOnlyIfAllowed();
        dealKeepsEndedRulings();
        dealTakesLikeSlotTimesAnew();
        dealAnswersWaitingOnes();
        swapExchangesTimesOver();
        swapWithinEndedRuling();
        swapRefuses();
        swapNotAheadOfPlanned();
        messagesByNumbers();
        messageRefuses();
        replanLosesSlotTimesAhead();
        endedFlightsTakeNone();
        companiesAreCharged();
        windowsOfDeparture();
        companyIsRefuses();
        Check.finish("DealsTest");
    }

    /** Flights of company 1 that enter sector 0 ten minutes behind their departure. */
    private static SkyloadBureau withTimesOver(int... times) {
        SkyloadBureau bureau = new SkyloadBureau();
        for (int time : times) {
            bureau.entry(bureau.flight(1, time - 10), 0, 10, 20);
        }
        return bureau;
    }

    private static void dealt(String what, SkyloadBureau bureau, int flight, int slotTime, int ruling) {
        Check.equal("21 " + what + ", slot time", bureau.flightIs(flight, 2), slotTime);
        Check.equal("21 " + what + ", ruling", bureau.flightIs(flight, 3), ruling);
    }

    private static void dealGivesSlotTimes() {
        SkyloadBureau bureau = withTimesOver(100, 100, 100, 500);
        bureau.regulation(0, 100, 160, 6);
        Check.equal("21 minutes", bureau.deal(false), 30);
        dealt("due 0", bureau, 0, -1, -1);
        dealt("due 10", bureau, 1, 100, 0);
        dealt("due 20", bureau, 2, 110, 0);
        dealt("not listed", bureau, 3, -1, -1);
        Check.equal("21 dues as before", bureau.allDue(), 30);
        Check.equal("21 again", bureau.deal(true), 30);
        dealt("due 20 again", bureau, 2, 110, 0);
    }

    private static void dealWorsensOnlyIfAllowed() {
        SkyloadBureau bureau = withTimesOver(100, 100);
        bureau.regulation(0, 100, 160, 6);
        bureau.deal(false);
        bureau.rate(0, 2);
        Check.equal("21 not worsened, minutes", bureau.deal(false), 10);
        dealt("not worsened", bureau, 1, 100, 0);
        Check.equal("21 worsened, minutes", bureau.deal(true), 30);
        dealt("worsened", bureau, 1, 120, 0);
        bureau.rate(0, 3);
        Check.equal("21 bettered, minutes", bureau.deal(false), 20);
        dealt("bettered", bureau, 1, 110, 0);
        bureau.rate(0, 60);
        Check.equal("21 little due, minutes", bureau.deal(false), 1);
        dealt("little due", bureau, 1, 91, 0);
        bureau.message(0, 1, CANCEL, 0);
        Check.equal("21 due 0, minutes", bureau.deal(false), 0);
        dealt("due 0", bureau, 1, -1, -1);
    }

    private static void dealKeepsEndedRulings() {
        SkyloadBureau bureau = withTimesOver(100);
        bureau.regulation(0, 100, 110, 0);
        bureau.deal(false);
        bureau.end(0);
        bureau.regulation(0, 100, 120, 0);
        Check.equal("21 kept, minutes", bureau.deal(false), 10);
        dealt("kept", bureau, 0, 100, 0);
        Check.equal("21 worsened, minutes", bureau.deal(true), 20);
        dealt("worsened", bureau, 0, 110, 1);
    }

    private static void dealTakesLikeSlotTimesAnew() {
        SkyloadBureau bureau = withTimesOver(100);
        bureau.regulation(0, 100, 110, 0);
        bureau.deal(false);
        bureau.end(0);
        bureau.regulation(0, 100, 110, 0);
        Check.equal("21 of like slot times, minutes", bureau.deal(false), 10);
        dealt("of like slot times", bureau, 0, 100, 1);
    }

    private static void dealAnswersWaitingOnes() {
        SkyloadBureau bureau = withTimesOver(100, 101, 102, 103);
        bureau.regulation(0, 100, 110, 0);
        Check.equal("21 all", bureau.deal(false), 10 + 9 + 8 + 7);
        bureau.message(0, 1, GO, 90);
        bureau.message(1, 1, CANCEL, 0);
        bureau.exempt(2, true);
        Check.equal("21 waiting ones", bureau.deal(false), 7);
        bureau.end(0);
        Check.equal("21 none", bureau.deal(false), 0);
        dealt("gone", bureau, 0, 100, 0);
        dealt("cancelled", bureau, 1, 100, 0);
        dealt("exempt", bureau, 2, -1, -1);
    }

    private static void swapExchangesTimesOver() {
        SkyloadBureau bureau = new SkyloadBureau();
        bureau.entry(bureau.flight(1, 80), 0, 20, 5);
        bureau.entry(bureau.flight(1, 70), 0, 35, 5);
        bureau.entry(1, 1, 36, 5);
        bureau.regulation(0, 100, 160, 1);
        bureau.entry(bureau.flight(1, 100), 0, 0, 5);
        bureau.rate(0, 6);
        bureau.deal(true);
        dealt("ahead", bureau, 1, 85, 0);
        dealt("ahead, another", bureau, 2, 110, 0);
        bureau.swap(1, 2);
        dealt("swapped", bureau, 1, 85 - 10, 0);
        dealt("swapped, another", bureau, 2, 120, 0);
        Check.equal("22 time over", bureau.over(1, 0), 110);
        Check.equal("22 time over of another", bureau.over(2, 0), 120);
        bureau.swap(2, 1);
        dealt("swapped back", bureau, 1, 85, 0);
        dealt("swapped back, another", bureau, 2, 110, 0);
    }

    private static void swapWithinEndedRuling() {
        SkyloadBureau bureau = withTimesOver(100, 100, 100);
        bureau.regulation(0, 100, 160, 6);
        bureau.deal(true);
        bureau.end(0);
        bureau.swap(1, 2);
        dealt("swapped, ended", bureau, 1, 110, 0);
        dealt("swapped, ended, another", bureau, 2, 100, 0);
    }

    private static void swapRefuses() {
        SkyloadBureau bureau = withTimesOver(100, 100, 100, 100, 100);
        bureau.entry(bureau.flight(2, 90), 0, 10, 5);
        bureau.entry(bureau.flight(1, 500), 1, 0, 5);
        bureau.regulation(0, 100, 160, 6);
        bureau.regulation(1, 500, 510, 0);
        bureau.deal(true);
        Check.noSuch("22 flight -1", () -> bureau.swap(-1, 0));
        Check.noSuch("22 flight 7", () -> bureau.swap(7, 0));
        Check.noSuch("22 other -1", () -> bureau.swap(0, -1));
        Check.noSuch("22 other 7", () -> bureau.swap(0, 7));
        Check.noSuch("22 none such, twice", () -> bureau.swap(7, 7));
        Check.badArgument("22 both the same", () -> bureau.swap(1, 1));
        Check.badState("22 the first one without a slot time", () -> bureau.swap(0, 1));
        Check.badState("22 the other one without a slot time", () -> bureau.swap(1, 0));
        Check.badState("22 of another company", () -> bureau.swap(1, 5));
        Check.badState("22 another ruling", () -> bureau.swap(1, 6));
        bureau.message(2, 1, GO, 100);
        Check.badState("22 gone", () -> bureau.swap(1, 2));
        Check.badState("22 gone, the first one", () -> bureau.swap(2, 1));
        bureau.message(3, 1, CANCEL, 0);
        Check.badState("22 cancelled", () -> bureau.swap(1, 3));
        Check.badState("22 cancelled, the first one", () -> bureau.swap(3, 1));
        bureau.swap(1, 4);
        dealt("still swapped", bureau, 1, 130, 0);
        dealt("still swapped, another", bureau, 4, 100, 0);
        Check.badArgument("22 both the same without a slot time", () -> bureau.swap(0, 0));
        bureau.flight(1, 0);
        bureau.flight(1, 0);
        Check.badState("22 both without a slot time", () -> bureau.swap(7, 8));
    }

    private static void swapNotAheadOfPlanned() {
        SkyloadBureau bureau = withTimesOver(100, 100, 110);
        bureau.regulation(0, 100, 160, 6);
        bureau.deal(true);
        bureau.swap(1, 2);
        dealt("just at the planned time", bureau, 2, 100, 0);
        bureau.swap(1, 2);
        bureau.swap(2, 1);
        dealt("the first one just at the planned time", bureau, 2, 100, 0);
        SkyloadBureau later = withTimesOver(100, 100, 111);
        later.regulation(0, 100, 160, 6);
        later.deal(true);
        Check.badState("22 the other one ahead of its planned time", () -> later.swap(1, 2));
        Check.badState("22 the first one ahead of its planned time", () -> later.swap(2, 1));
        dealt("not swapped", later, 1, 100, 0);
        dealt("not swapped, another", later, 2, 110, 0);
    }

    private static void messagesByNumbers() {
        SkyloadBureau bureau = withTimesOver(100, 100);
        Check.isTrue("23 taken", bureau.message(0, 5, REPLAN, 200));
        Check.isTrue("23 doubled", !bureau.message(0, 5, REPLAN, 300));
        Check.isTrue("23 late", !bureau.message(0, 4, CANCEL, 0));
        Check.equal("23 planned", bureau.flightIs(0, 1), 200);
        Check.equal("23 number", bureau.flightIs(0, 6), 5);
        Check.isTrue("23 of another flight", bureau.message(1, 1, REPLAN, 0));
        Check.isTrue("23 next", bureau.message(0, 6, REPLAN, 1439));
        Check.equal("23 planned anew", bureau.flightIs(0, 1), 1439);
        Check.isTrue("23 the highest", bureau.message(0, 99, REPLAN, 1));
        Check.isTrue("23 the highest again", !bureau.message(0, 99, GO, 1));
        Check.equal("23 waiting still", bureau.flightIs(0, 0), SkyloadBureau.WAITING);
    }

    private static void messageRefuses() {
        SkyloadBureau bureau = withTimesOver(100);
        Check.noSuch("23 flight -1", () -> bureau.message(-1, 1, GO, 0));
        Check.noSuch("23 flight 1", () -> bureau.message(1, 1, GO, 0));
        Check.noSuch("23 flight ahead of number", () -> bureau.message(1, 0, 3, -1));
        Check.badArgument("23 number 0", () -> bureau.message(0, 0, GO, 0));
        Check.badArgument("23 number 100", () -> bureau.message(0, 100, GO, 0));
        Check.badArgument("23 kind -1", () -> bureau.message(0, 1, -1, 0));
        Check.badArgument("23 kind 3", () -> bureau.message(0, 1, 3, 0));
        Check.badArgument("23 minute -1", () -> bureau.message(0, 1, GO, -1));
        Check.badArgument("23 minute 1440", () -> bureau.message(0, 1, GO, 1440));
        Check.badArgument("23 minute -1 of REPLAN", () -> bureau.message(0, 1, REPLAN, -1));
        Check.badArgument("23 minute 1440 of REPLAN", () -> bureau.message(0, 1, REPLAN, 1440));
        Check.badArgument("23 minute 1 of CANCEL", () -> bureau.message(0, 1, CANCEL, 1));
        Check.badArgument("23 minute -1 of CANCEL", () -> bureau.message(0, 1, CANCEL, -1));
        Check.equal("23 nothing changed", bureau.flightIs(0, 6), 0);
        Check.isTrue("23 taken", bureau.message(0, 1, CANCEL, 0));
        Check.badArgument("23 number 0 of a cancelled one", () -> bureau.message(0, 0, GO, 0));
    }

    private static void replanLosesSlotTimesAhead() {
        SkyloadBureau bureau = withTimesOver(100, 100);
        bureau.regulation(0, 100, 120, 0);
        bureau.deal(true);
        bureau.message(0, 1, REPLAN, 110);
        dealt("planned at its slot time", bureau, 0, 110, 0);
        bureau.message(0, 2, REPLAN, 111);
        dealt("planned behind its slot time", bureau, 0, -1, -1);
        Check.equal("23 departure", bureau.flightIs(0, 4), 111);
        bureau.message(1, 1, REPLAN, 20);
        dealt("planned earlier", bureau, 1, 110, 0);
        Check.equal("23 dealt anew", bureau.deal(true), 0);
        dealt("planned earlier, dealt anew", bureau, 1, -1, -1);
    }

    private static void endedFlightsTakeNone() {
        SkyloadBureau bureau = withTimesOver(100, 100);
        bureau.message(0, 1, GO, 95);
        Check.isTrue("23 gone", !bureau.message(0, 2, CANCEL, 0));
        bureau.message(1, 1, CANCEL, 0);
        Check.isTrue("23 cancelled", !bureau.message(1, 2, GO, 5));
        Check.equal("23 is gone", bureau.flightIs(0, 0), SkyloadBureau.GONE);
        Check.equal("23 is cancelled", bureau.flightIs(1, 0), SkyloadBureau.CANCELLED);
        Check.equal("23 number of the gone one", bureau.flightIs(0, 6), 1);
        Check.equal("23 number of the cancelled one", bureau.flightIs(1, 6), 1);
        Check.equal("23 departure of the gone one", bureau.flightIs(0, 4), 95);
    }

    private static void companiesAreCharged() {
        SkyloadBureau bureau = withTimesOver(100, 104, 300, 106);
        bureau.entry(bureau.flight(2, 95), 0, 10, 5);
        bureau.regulation(0, 100, 110, 0);
        bureau.deal(true);
        bureau.message(0, 1, GO, 101);
        Check.equal("24 charged", bureau.companyIs(1, 0), 10);
        Check.equal("24 gone", bureau.companyIs(1, 2), 1);
        bureau.message(1, 1, GO, 99);
        bureau.message(2, 1, GO, 5);
        bureau.message(3, 1, CANCEL, 0);
        Check.equal("24 charged, of three", bureau.companyIs(1, 0), 10 + 6);
        Check.equal("24 out of window, of three", bureau.companyIs(1, 1), 0);
        Check.equal("24 gone, of three", bureau.companyIs(1, 2), 3);
        bureau.message(4, 1, GO, 0);
        Check.equal("24 charged, another company", bureau.companyIs(2, 0), 5);
        Check.equal("24 out of window, another company", bureau.companyIs(2, 1), 1);
        Check.equal("24 gone, another company", bureau.companyIs(2, 2), 1);
        Check.equal("24 charged to the regulation", bureau.regulationIs(0, 6), 21);
        bureau.deal(true);
        Check.equal("24 charged for ever", bureau.companyIs(1, 0), 16);
        Check.equal("24 the others none", bureau.companyIs(0, 0) + bureau.companyIs(3, 2), 0);
    }

    private static void windowsOfDeparture() {
        int[] minutes = {94, 95, 100, 110, 111};
        int[] out = {1, 0, 0, 0, 1};
        for (int i = 0; i < minutes.length; i++) {
            SkyloadBureau bureau = withTimesOver(100);
            bureau.regulation(0, 100, 110, 0);
            bureau.deal(true);
            bureau.message(0, 1, GO, minutes[i]);
            Check.equal("24 out of window at " + minutes[i], bureau.companyIs(1, 1), out[i]);
            Check.equal("24 gone at " + minutes[i], bureau.companyIs(1, 2), 1);
        }
    }

    private static void companyIsRefuses() {
        SkyloadBureau bureau = new SkyloadBureau();
        Check.noSuch("24 company -1", () -> bureau.companyIs(-1, 0));
        Check.noSuch("24 company 4", () -> bureau.companyIs(4, 0));
        Check.noSuch("24 company ahead of what", () -> bureau.companyIs(4, 3));
        Check.badArgument("24 what -1", () -> bureau.companyIs(0, -1));
        Check.badArgument("24 what 3", () -> bureau.companyIs(0, 3));
        Check.equal("24 company 3", bureau.companyIs(3, 2), 0);
    }
}
