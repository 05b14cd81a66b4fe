/** Promises 1 to 6: a new object, flight, entry, exempt, flightIs, over. */
public final class FlightsTest {
    private static final int LOWEST = Integer.MIN_VALUE;
    private static final int HIGHEST = Integer.MAX_VALUE;

    public static void main(String[] args) {
        aNewObjectIsEmpty();
        flightsAreNumbered();
        flightRefuses();
        entriesAreCounted();
        entryRefusesArguments();
        entryRefusesByState();
        exemptAnswersWhatWas();
        exemptTakesTheSlotTime();
        flightIsTellsAll();
        departureFollows();
        overFollows();
        Check.finish("FlightsTest");
    }

    private static void aNewObjectIsEmpty() {
        SkyloadBureau bureau = new SkyloadBureau();
        Check.noSuch("1 flightIs(0, 0)", () -> bureau.flightIs(0, 0));
        Check.noSuch("1 regulationIs(0, 0)", () -> bureau.regulationIs(0, 0));
        Check.equal("1 allDue", bureau.allDue(), 0);
        Check.equal("1 deal", bureau.deal(true), 0);
        for (int sector = 0; sector < 6; sector++) {
            Check.equal("1 load", bureau.load(sector, 0, 240), 0);
            Check.equal("1 inside", bureau.inside(sector, 0), 0);
            Check.equal("1 peak", bureau.peak(sector, 240), 0);
            Check.equal("1 peakAnew", bureau.peakAnew(sector, 240), 0);
            Check.equal("1 would", bureau.would(sector, 0, 1440, 0), 0);
        }
        for (int company = 0; company < 4; company++) {
            for (int what = 0; what < 3; what++) {
                Check.equal("1 companyIs", bureau.companyIs(company, what), 0);
            }
        }
        Check.equal("1 first flight", bureau.flight(0, 0), 0);
        Check.equal("1 another object", new SkyloadBureau().flight(0, 0), 0);
    }

    private static void flightsAreNumbered() {
        SkyloadBureau bureau = new SkyloadBureau();
        for (int i = 0; i < 24; i++) {
            Check.equal("2 flight", bureau.flight(i % 4, i * 60), i);
        }
        Check.badState("2 the 25th flight", () -> bureau.flight(0, 0));
        Check.noSuch("2 company ahead of the state", () -> bureau.flight(4, 0));
        Check.badArgument("2 planned ahead of the state", () -> bureau.flight(0, 1440));
        Check.equal("2 the last one's planned time", bureau.flightIs(23, 1), 23 * 60);
        Check.equal("2 the last one's entries", bureau.flightIs(23, 5), 0);
        Check.noSuch("2 no flight more", () -> bureau.flightIs(24, 0));
    }

    private static void flightRefuses() {
        SkyloadBureau bureau = new SkyloadBureau();
        Check.noSuch("2 company -1", () -> bureau.flight(-1, 0));
        Check.noSuch("2 company 4", () -> bureau.flight(4, 0));
        Check.noSuch("2 company lowest", () -> bureau.flight(LOWEST, 0));
        Check.noSuch("2 company ahead of planned", () -> bureau.flight(4, 1440));
        Check.badArgument("2 planned -1", () -> bureau.flight(0, -1));
        Check.badArgument("2 planned 1440", () -> bureau.flight(0, 1440));
        Check.badArgument("2 planned highest", () -> bureau.flight(0, HIGHEST));
        Check.equal("2 nothing changed", bureau.flight(3, 1439), 0);
        Check.equal("2 planned 0", bureau.flight(0, 0), 1);
    }

    private static void entriesAreCounted() {
        SkyloadBureau bureau = new SkyloadBureau();
        bureau.flight(0, 100);
        Check.equal("3 first", bureau.entry(0, 5, 0, 1), 1);
        Check.equal("3 second", bureau.entry(0, 0, 1, 120), 2);
        Check.equal("3 third", bureau.entry(0, 3, 2, 10), 3);
        Check.equal("3 fourth", bureau.entry(0, 1, 599, 10), 4);
        Check.equal("3 fifth", bureau.entry(0, 2, 600, 10), 5);
        Check.equal("3 count", bureau.flightIs(0, 5), 5);
        Check.equal("3 over 5", bureau.over(0, 5), 100);
        Check.equal("3 over 0", bureau.over(0, 0), 101);
        Check.equal("3 over 2", bureau.over(0, 2), 700);
        Check.equal("3 over 4", bureau.over(0, 4), -1);
    }

    private static void entryRefusesArguments() {
        SkyloadBureau bureau = new SkyloadBureau();
        bureau.flight(0, 100);
        Check.noSuch("3 flight -1", () -> bureau.entry(-1, 0, 0, 1));
        Check.noSuch("3 flight 1", () -> bureau.entry(1, 0, 0, 1));
        Check.noSuch("3 sector -1", () -> bureau.entry(0, -1, 0, 1));
        Check.noSuch("3 sector 6", () -> bureau.entry(0, 6, 0, 1));
        Check.noSuch("3 sector ahead of behind", () -> bureau.entry(0, 6, -1, 0));
        Check.badArgument("3 behind -1", () -> bureau.entry(0, 0, -1, 1));
        Check.badArgument("3 behind 601", () -> bureau.entry(0, 0, 601, 1));
        Check.badArgument("3 stays 0", () -> bureau.entry(0, 0, 0, 0));
        Check.badArgument("3 stays 121", () -> bureau.entry(0, 0, 0, 121));
        Check.badArgument("3 stays highest", () -> bureau.entry(0, 0, 0, HIGHEST));
        Check.equal("3 nothing changed", bureau.flightIs(0, 5), 0);
    }

    private static void entryRefusesByState() {
        SkyloadBureau bureau = new SkyloadBureau();
        bureau.flight(0, 100);
        bureau.entry(0, 0, 5, 1);
        Check.badState("3 that sector already", () -> bureau.entry(0, 0, 6, 1));
        Check.badState("3 as many behind", () -> bureau.entry(0, 1, 5, 1));
        Check.badState("3 fewer behind", () -> bureau.entry(0, 1, 4, 1));
        Check.badArgument("3 stays ahead of the state", () -> bureau.entry(0, 0, 5, 0));
        Check.equal("3 nothing changed", bureau.flightIs(0, 5), 1);
        bureau.entry(0, 1, 6, 1);
        bureau.entry(0, 2, 7, 1);
        bureau.entry(0, 3, 8, 1);
        bureau.entry(0, 4, 9, 1);
        Check.badState("3 a sixth", () -> bureau.entry(0, 5, 10, 1));
        bureau.flight(0, 100);
        bureau.message(1, 1, SkyloadBureau.GO, 100);
        Check.badState("3 gone", () -> bureau.entry(1, 0, 0, 1));
        bureau.flight(0, 100);
        bureau.message(2, 1, SkyloadBureau.CANCEL, 0);
        Check.badState("3 cancelled", () -> bureau.entry(2, 0, 0, 1));
        bureau.flight(0, 100);
        bureau.entry(3, 5, 0, 1);
        bureau.regulation(5, 100, 110, 0);
        bureau.deal(true);
        Check.badState("3 with a slot time", () -> bureau.entry(3, 0, 1, 1));
        bureau.end(0);
        bureau.deal(true);
        Check.equal("3 without it again", bureau.entry(3, 0, 1, 1), 2);
    }

    private static void exemptAnswersWhatWas() {
        SkyloadBureau bureau = new SkyloadBureau();
        bureau.flight(0, 100);
        Check.noSuch("4 flight -1", () -> bureau.exempt(-1, true));
        Check.noSuch("4 flight 1", () -> bureau.exempt(1, true));
        Check.isTrue("4 was not", !bureau.exempt(0, false));
        Check.isTrue("4 was not still", !bureau.exempt(0, true));
        Check.equal("4 is", bureau.flightIs(0, 7), 1);
        Check.isTrue("4 was", bureau.exempt(0, true));
        Check.isTrue("4 was still", bureau.exempt(0, false));
        Check.equal("4 is not", bureau.flightIs(0, 7), 0);
        bureau.exempt(0, true);
        bureau.message(0, 1, SkyloadBureau.GO, 100);
        Check.badState("4 gone", () -> bureau.exempt(0, false));
        Check.equal("4 gone, still", bureau.flightIs(0, 7), 1);
        bureau.flight(0, 100);
        bureau.message(1, 1, SkyloadBureau.CANCEL, 0);
        Check.badState("4 cancelled", () -> bureau.exempt(1, true));
    }

    private static void exemptTakesTheSlotTime() {
        SkyloadBureau bureau = new SkyloadBureau();
        bureau.flight(0, 100);
        bureau.entry(0, 0, 0, 10);
        bureau.regulation(0, 100, 110, 0);
        bureau.deal(true);
        bureau.exempt(0, false);
        Check.equal("4 not exempt keeps it", bureau.flightIs(0, 2), 110);
        bureau.exempt(0, true);
        Check.equal("4 slot time", bureau.flightIs(0, 2), -1);
        Check.equal("4 ruling", bureau.flightIs(0, 3), -1);
        Check.equal("4 departure", bureau.flightIs(0, 4), 100);
        bureau.deal(true);
        Check.equal("4 none by a deal", bureau.flightIs(0, 2), -1);
        bureau.exempt(0, false);
        Check.equal("4 none till a deal", bureau.flightIs(0, 2), -1);
        bureau.deal(false);
        Check.equal("4 one by a deal", bureau.flightIs(0, 2), 110);
    }

    private static void flightIsTellsAll() {
        SkyloadBureau bureau = new SkyloadBureau();
        bureau.flight(0, 1439);
        int[] first = {SkyloadBureau.WAITING, 1439, -1, -1, 1439, 0, 0, 0};
        for (int what = 0; what < first.length; what++) {
            Check.equal("5 new flight, " + what, bureau.flightIs(0, what), first[what]);
        }
        Check.noSuch("5 flight -1", () -> bureau.flightIs(-1, 0));
        Check.noSuch("5 flight 1", () -> bureau.flightIs(1, 0));
        Check.noSuch("5 flight ahead of what", () -> bureau.flightIs(1, 8));
        Check.badArgument("5 what -1", () -> bureau.flightIs(0, -1));
        Check.badArgument("5 what 8", () -> bureau.flightIs(0, 8));
        bureau.regulation(1, 0, 10, 60);
        bureau.regulation(0, 600, 700, 0);
        bureau.message(0, 7, SkyloadBureau.REPLAN, 590);
        bureau.entry(0, 0, 20, 10);
        bureau.deal(false);
        int[] dealt = {SkyloadBureau.WAITING, 590, 680, 1, 680, 1, 7, 0};
        for (int what = 0; what < dealt.length; what++) {
            Check.equal("5 dealt flight, " + what, bureau.flightIs(0, what), dealt[what]);
        }
        bureau.message(0, 8, SkyloadBureau.GO, 688);
        int[] gone = {SkyloadBureau.GONE, 590, 680, 1, 688, 1, 8, 0};
        for (int what = 0; what < gone.length; what++) {
            Check.equal("5 gone flight, " + what, bureau.flightIs(0, what), gone[what]);
        }
    }

    private static void departureFollows() {
        SkyloadBureau bureau = new SkyloadBureau();
        bureau.flight(0, 50);
        bureau.message(0, 1, SkyloadBureau.CANCEL, 0);
        Check.equal("5 cancelled without a slot time", bureau.flightIs(0, 4), 50);
        bureau.flight(0, 50);
        bureau.entry(1, 0, 0, 10);
        bureau.regulation(0, 0, 100, 0);
        bureau.deal(false);
        bureau.message(1, 1, SkyloadBureau.CANCEL, 0);
        int[] cancelled = {SkyloadBureau.CANCELLED, 50, 100, 0, 100, 1, 1, 0};
        for (int what = 0; what < cancelled.length; what++) {
            Check.equal("5 cancelled with a slot time, " + what, bureau.flightIs(1, what), cancelled[what]);
        }
        bureau.flight(0, 50);
        bureau.message(2, 1, SkyloadBureau.GO, 0);
        Check.equal("5 gone at 0", bureau.flightIs(2, 4), 0);
    }

    private static void overFollows() {
        SkyloadBureau bureau = new SkyloadBureau();
        bureau.flight(0, 1439);
        bureau.entry(0, 3, 600, 10);
        Check.equal("6 planned", bureau.over(0, 3), 2039);
        Check.equal("6 not entered", bureau.over(0, 2), -1);
        Check.noSuch("6 flight -1", () -> bureau.over(-1, 0));
        Check.noSuch("6 flight 1", () -> bureau.over(1, 0));
        Check.noSuch("6 sector -1", () -> bureau.over(0, -1));
        Check.noSuch("6 sector 6", () -> bureau.over(0, 6));
        bureau.message(0, 1, SkyloadBureau.REPLAN, 400);
        Check.equal("6 replanned", bureau.over(0, 3), 1000);
        bureau.regulation(3, 1000, 1100, 0);
        Check.equal("6 not dealt yet", bureau.over(0, 3), 1000);
        bureau.deal(false);
        Check.equal("6 by slot time", bureau.over(0, 3), 1100);
        bureau.message(0, 2, SkyloadBureau.REPLAN, 450);
        Check.equal("6 still by slot time", bureau.over(0, 3), 1100);
        bureau.message(0, 3, SkyloadBureau.GO, 30);
        Check.equal("6 gone", bureau.over(0, 3), 630);
        bureau.flight(0, 10);
        bureau.entry(1, 0, 5, 10);
        bureau.message(1, 3, SkyloadBureau.CANCEL, 0);
        Check.equal("6 cancelled", bureau.over(1, 0), 15);
    }
}
