/** Promises 11 to 20: regulation, rate, end, regulationIs, slot, penalty, due, dueAnew, allDue, would. */
public final class RegulationsTest {
    private static final int LOWEST = Integer.MIN_VALUE;
    private static final int HIGHEST = Integer.MAX_VALUE;

    public static void main(String[] args) {
        regulationsAreNumbered();
        regulationRefuses();
        rateIsToldAnew();
        endIsForEver();
        regulationIsTellsTheDeal();
        regulationIsWithinItsTimes();
        regulationIsTellsCharges();
        slotsBeginByTheRate();
        slotRefuses();
        penaltyByFirstSlots();
        penaltyBySlotsThatEndBehind();
        fixedOnesTakeFirst();
        penaltyRefuses();
        dueIsTheGreatest();
        dueRefuses();
        allDueAddsUp();
        wouldChangesNothing();
        wouldRefuses();
        Check.finish("RegulationsTest");
    }

    /** Flights that enter sector 0 ten minutes behind their departure. */
    private static SkyloadBureau withTimesOver(int... times) {
        SkyloadBureau bureau = new SkyloadBureau();
        for (int time : times) {
            bureau.entry(bureau.flight(0, time - 10), 0, 10, 20);
        }
        return bureau;
    }

    private static void bothDues(SkyloadBureau bureau, int flight, int due) {
        Check.equal("17 due of " + flight, bureau.due(flight), due);
        Check.equal("18 dueAnew of " + flight, bureau.dueAnew(flight), due);
    }

    private static void regulationIs(SkyloadBureau bureau, int regulation, int... due) {
        for (int what = 0; what < due.length; what++) {
            Check.equal("14 of " + regulation + ", " + what, bureau.regulationIs(regulation, what), due[what]);
        }
    }

    private static void regulationsAreNumbered() {
        SkyloadBureau bureau = new SkyloadBureau();
        for (int i = 0; i < 6; i++) {
            Check.equal("11 regulation", bureau.regulation(i, i, 1440 - i, 10 * i), i);
        }
        Check.badState("11 a seventh", () -> bureau.regulation(0, 0, 1, 0));
        Check.noSuch("11 sector ahead of the state", () -> bureau.regulation(6, 0, 1, 0));
        Check.badArgument("11 to ahead of the state", () -> bureau.regulation(0, 1, 1, 0));
        bureau.end(0);
        Check.badState("11 also with an ended one", () -> bureau.regulation(0, 0, 1, 0));
        Check.equal("11 the last one's rate", bureau.regulationIs(5, 5), 50);
        Check.noSuch("11 no regulation more", () -> bureau.regulationIs(6, 0));
    }

    private static void regulationRefuses() {
        SkyloadBureau bureau = new SkyloadBureau();
        Check.noSuch("11 sector -1", () -> bureau.regulation(-1, 0, 1, 0));
        Check.noSuch("11 sector 6", () -> bureau.regulation(6, 0, 1, 0));
        Check.noSuch("11 sector ahead of from", () -> bureau.regulation(6, -1, 1, 0));
        Check.badArgument("11 from -1", () -> bureau.regulation(0, -1, 1, 0));
        Check.badArgument("11 from 1440", () -> bureau.regulation(0, 1440, 1441, 0));
        Check.badArgument("11 from highest", () -> bureau.regulation(0, HIGHEST, LOWEST, 0));
        Check.badArgument("11 to as from", () -> bureau.regulation(0, 5, 5, 0));
        Check.badArgument("11 to ahead of from", () -> bureau.regulation(0, 5, 4, 0));
        Check.badArgument("11 to 1441", () -> bureau.regulation(0, 5, 1441, 0));
        Check.badArgument("11 rate -1", () -> bureau.regulation(0, 5, 6, -1));
        Check.badArgument("11 rate 61", () -> bureau.regulation(0, 5, 6, 61));
        Check.equal("11 nothing changed", bureau.regulation(5, 1439, 1440, 60), 0);
        Check.equal("11 another one", bureau.regulation(0, 0, 1, 0), 1);
    }

    private static void rateIsToldAnew() {
        SkyloadBureau bureau = withTimesOver(100);
        bureau.regulation(0, 100, 160, 6);
        Check.noSuch("12 regulation -1", () -> bureau.rate(-1, 0));
        Check.noSuch("12 regulation 1", () -> bureau.rate(1, 0));
        Check.noSuch("12 regulation ahead of rate", () -> bureau.rate(1, 61));
        Check.badArgument("12 rate -1", () -> bureau.rate(0, -1));
        Check.badArgument("12 rate 61", () -> bureau.rate(0, 61));
        Check.equal("12 the rate before", bureau.rate(0, 60), 6);
        Check.equal("12 slots", bureau.regulationIs(0, 0), 60);
        Check.equal("12 the rate before, again", bureau.rate(0, 0), 60);
        Check.equal("12 no slots", bureau.regulationIs(0, 0), 0);
        Check.equal("12 due at once", bureau.due(0), 60);
        Check.equal("12 no slot time yet", bureau.flightIs(0, 2), -1);
        Check.equal("12 the rate before, at last", bureau.rate(0, 12), 0);
        bureau.end(0);
        Check.badState("12 ended", () -> bureau.rate(0, 5));
        Check.badArgument("12 rate ahead of the state", () -> bureau.rate(0, 61));
        Check.equal("12 nothing changed", bureau.regulationIs(0, 5), 12);
    }

    private static void endIsForEver() {
        SkyloadBureau bureau = withTimesOver(100);
        bureau.regulation(0, 100, 160, 0);
        Check.noSuch("13 regulation -1", () -> bureau.end(-1));
        Check.noSuch("13 regulation 1", () -> bureau.end(1));
        bureau.deal(true);
        bureau.end(0);
        Check.badState("13 ended", () -> bureau.end(0));
        Check.equal("13 the slot time stays", bureau.flightIs(0, 2), 150);
        Check.equal("13 the ruling stays", bureau.flightIs(0, 3), 0);
        bothDues(bureau, 0, 0);
        bureau.deal(false);
        Check.equal("13 till the next deal", bureau.flightIs(0, 2), -1);
        Check.equal("13 so the ruling", bureau.flightIs(0, 3), -1);
    }

    private static void regulationIsTellsTheDeal() {
        SkyloadBureau bureau = withTimesOver(100, 100, 119, 119, 100, 119, 99, 120);
        bureau.regulation(0, 100, 120, 9);
        regulationIs(bureau, 0, 3, 0, 0, 6, 3, 9, 0);
        bureau.exempt(1, true);
        bureau.message(2, 1, SkyloadBureau.GO, 107);
        regulationIs(bureau, 0, 3, 0, 2, 4, 3, 9, 0);
        bureau.message(3, 1, SkyloadBureau.CANCEL, 0);
        regulationIs(bureau, 0, 3, 0, 2, 3, 2, 9, 0);
        bureau.rate(0, 60);
        regulationIs(bureau, 0, 20, 15, 2, 3, 0, 60, 0);
        bureau.rate(0, 0);
        regulationIs(bureau, 0, 0, 0, 2, 3, 3, 0, 0);
        bureau.end(0);
        regulationIs(bureau, 0, 0, 0, 0, 0, 0, 0, 0);
        Check.noSuch("14 regulation -1", () -> bureau.regulationIs(-1, 0));
        Check.noSuch("14 regulation 1", () -> bureau.regulationIs(1, 0));
        Check.noSuch("14 regulation ahead of what", () -> bureau.regulationIs(1, 7));
        Check.badArgument("14 what -1", () -> bureau.regulationIs(0, -1));
        Check.badArgument("14 what 7", () -> bureau.regulationIs(0, 7));
    }

    private static void regulationIsWithinItsTimes() {
        SkyloadBureau bureau = withTimesOver(99, 100, 119, 120);
        bureau.regulation(0, 100, 120, 3);
        regulationIs(bureau, 0, 1, 0, 0, 2, 1, 3, 0);
        for (int i = 0; i < 4; i++) {
            bureau.exempt(i, true);
        }
        regulationIs(bureau, 0, 1, 0, 2, 0, 0, 3, 0);
        bureau.message(0, 1, SkyloadBureau.GO, 90);
        bureau.message(1, 1, SkyloadBureau.GO, 89);
        bureau.message(2, 1, SkyloadBureau.GO, 110);
        bureau.message(3, 1, SkyloadBureau.GO, 109);
        regulationIs(bureau, 0, 1, 0, 2, 0, 0, 3, 0);
        bureau.regulation(1, 0, 1440, 60);
        regulationIs(bureau, 1, 1440, 1440, 0, 0, 0, 60, 0);
    }

    private static void regulationIsTellsCharges() {
        SkyloadBureau bureau = withTimesOver(100, 105, 300);
        bureau.regulation(0, 100, 120, 0);
        bureau.deal(true);
        bureau.message(0, 1, SkyloadBureau.GO, 91);
        Check.equal("14 charged to its slot time", bureau.regulationIs(0, 6), 20);
        bureau.message(2, 1, SkyloadBureau.GO, 295);
        Check.equal("14 none without a slot time", bureau.regulationIs(0, 6), 20);
        bureau.message(1, 1, SkyloadBureau.REPLAN, 100);
        bureau.end(0);
        bureau.message(1, 2, SkyloadBureau.GO, 110);
        Check.equal("14 from the planned time anew, and ended", bureau.regulationIs(0, 6), 30);
        SkyloadBureau other = withTimesOver(100);
        other.regulation(0, 100, 120, 0);
        other.deal(true);
        other.message(0, 1, SkyloadBureau.CANCEL, 0);
        Check.equal("14 cancelled", other.regulationIs(0, 6), 0);
    }

    private static void slotsBeginByTheRate() {
        SkyloadBureau bureau = new SkyloadBureau();
        bureau.regulation(0, 100, 120, 7);
        int[] begins = {100, 108, 117, -1};
        for (int i = 0; i < begins.length; i++) {
            Check.equal("15 by rate 7, slot " + i, bureau.slot(0, i), begins[i]);
        }
        Check.equal("15 far behind", bureau.slot(0, HIGHEST), -1);
        bureau.rate(0, 3);
        Check.equal("15 by rate 3, slot 0", bureau.slot(0, 0), 100);
        Check.equal("15 not at the end itself", bureau.slot(0, 1), -1);
        bureau.rate(0, 59);
        int[] ends = {118, 119, -1};
        for (int i = 0; i < ends.length; i++) {
            Check.equal("15 by rate 59", bureau.slot(0, 18 + i), ends[i]);
        }
        bureau.rate(0, 0);
        Check.equal("15 by rate 0", bureau.slot(0, 0), -1);
        bureau.rate(0, 60);
        Check.equal("15 by rate 60", bureau.slot(0, 19), 119);
        Check.equal("15 no more by rate 60", bureau.slot(0, 20), -1);
        bureau.end(0);
        Check.equal("15 ended", bureau.slot(0, 0), -1);
        bureau.regulation(0, 0, 1440, 60);
        Check.equal("15 the day's last", bureau.slot(1, 1439), 1439);
        Check.equal("15 no more", bureau.slot(1, 1440), -1);
    }

    private static void slotRefuses() {
        SkyloadBureau bureau = new SkyloadBureau();
        Check.noSuch("15 no regulation", () -> bureau.slot(0, 0));
        bureau.regulation(0, 100, 120, 7);
        Check.noSuch("15 regulation -1", () -> bureau.slot(-1, 0));
        Check.noSuch("15 regulation 1", () -> bureau.slot(1, 0));
        Check.noSuch("15 slot -1", () -> bureau.slot(0, -1));
        Check.noSuch("15 slot lowest", () -> bureau.slot(0, LOWEST));
        bureau.end(0);
        Check.noSuch("15 slot -1, ended", () -> bureau.slot(0, -1));
    }

    private static void penaltyByFirstSlots() {
        SkyloadBureau bureau = withTimesOver(115, 100, 100, 109, 160, 110, 159);
        bureau.regulation(0, 100, 160, 6);
        int[] penalties = {25, 0, 10, 11, -1, 20, 0};
        for (int i = 0; i < penalties.length; i++) {
            Check.equal("16 penalty of " + i, bureau.penalty(i, 0), penalties[i]);
            bothDues(bureau, i, Math.max(0, penalties[i]));
        }
        bureau.rate(0, 2);
        int[] fewer = {45, 0, 30, 51, -1, 50, 1};
        for (int i = 0; i < fewer.length; i++) {
            Check.equal("16 to the end, of " + i, bureau.penalty(i, 0), fewer[i]);
            bothDues(bureau, i, Math.max(0, fewer[i]));
        }
    }

    private static void penaltyBySlotsThatEndBehind() {
        SkyloadBureau bureau = withTimesOver(110, 110, 135, 135, 159);
        bureau.regulation(0, 100, 160, 6);
        int[] penalties = {0, 10, 0, 5, 0};
        for (int i = 0; i < penalties.length; i++) {
            Check.equal("16 slots that end behind, of " + i, bureau.penalty(i, 0), penalties[i]);
            bothDues(bureau, i, penalties[i]);
        }
        Check.equal("16 free slots", bureau.regulationIs(0, 1), 1);
        SkyloadBureau fixed = withTimesOver(110, 120, 159, 159);
        fixed.regulation(0, 100, 160, 6);
        fixed.exempt(1, true);
        fixed.exempt(2, true);
        bothDues(fixed, 0, 0);
        Check.equal("16 behind a fixed one in the last slot", fixed.penalty(3, 0), 1);
        bothDues(fixed, 3, 1);
        fixed.message(0, 1, SkyloadBureau.REPLAN, 110);
        Check.equal("16 behind a fixed one at its slot's beginning", fixed.penalty(0, 0), 10);
        bothDues(fixed, 0, 10);
    }

    private static void fixedOnesTakeFirst() {
        SkyloadBureau bureau = withTimesOver(100, 100, 100, 125);
        bureau.regulation(0, 100, 160, 6);
        bureau.exempt(2, true);
        Check.equal("16 behind the exempt one", bureau.penalty(0, 0), 10);
        Check.equal("16 behind that", bureau.penalty(1, 0), 20);
        Check.equal("16 the exempt one", bureau.penalty(2, 0), -1);
        bureau.message(3, 1, SkyloadBureau.GO, 90);
        Check.equal("16 behind the gone one too", bureau.penalty(0, 0), 20);
        Check.equal("16 behind all", bureau.penalty(1, 0), 30);
        bothDues(bureau, 0, 20);
        bothDues(bureau, 1, 30);
        bureau.message(2, 1, SkyloadBureau.GO, 40);
        Check.equal("16 gone out of the regulation", bureau.penalty(0, 0), 10);
        bureau.message(1, 1, SkyloadBureau.CANCEL, 0);
        Check.equal("16 cancelled", bureau.penalty(1, 0), -1);
        Check.equal("16 the gone one", bureau.penalty(3, 0), -1);
        bothDues(bureau, 1, 0);
        bothDues(bureau, 3, 0);
    }

    private static void penaltyRefuses() {
        SkyloadBureau bureau = withTimesOver(100);
        bureau.regulation(0, 100, 160, 0);
        bureau.regulation(1, 100, 160, 0);
        Check.noSuch("16 flight -1", () -> bureau.penalty(-1, 0));
        Check.noSuch("16 flight 1", () -> bureau.penalty(1, 0));
        Check.noSuch("16 regulation -1", () -> bureau.penalty(0, -1));
        Check.noSuch("16 regulation 2", () -> bureau.penalty(0, 2));
        Check.equal("16 listed", bureau.penalty(0, 0), 60);
        Check.equal("16 not entered", bureau.penalty(0, 1), -1);
        bureau.end(0);
        Check.equal("16 ended", bureau.penalty(0, 0), -1);
    }

    private static void dueIsTheGreatest() {
        SkyloadBureau bureau = withTimesOver(100);
        bureau.entry(0, 1, 30, 10);
        bureau.regulation(0, 100, 140, 0);
        bureau.regulation(1, 120, 170, 0);
        bureau.regulation(1, 120, 170, 0);
        bothDues(bureau, 0, 50);
        bureau.deal(true);
        Check.equal("17 the lowest regulation of like ones", bureau.flightIs(0, 3), 1);
        bureau.end(1);
        bothDues(bureau, 0, 50);
        bureau.deal(true);
        Check.equal("17 the one that is left", bureau.flightIs(0, 3), 2);
        bothDues(bureau, 0, 50);
        bureau.end(2);
        bothDues(bureau, 0, 40);
        bureau.end(0);
        bothDues(bureau, 0, 0);
    }

    private static void dueRefuses() {
        SkyloadBureau bureau = new SkyloadBureau();
        Check.noSuch("17 no flight", () -> bureau.due(0));
        Check.noSuch("18 no flight", () -> bureau.dueAnew(0));
        bureau.flight(0, 0);
        Check.noSuch("17 flight -1", () -> bureau.due(-1));
        Check.noSuch("17 flight 1", () -> bureau.due(1));
        Check.noSuch("18 flight -1", () -> bureau.dueAnew(-1));
        Check.noSuch("18 flight 1", () -> bureau.dueAnew(1));
        bothDues(bureau, 0, 0);
    }

    private static void allDueAddsUp() {
        SkyloadBureau bureau = withTimesOver(100, 105, 110, 400);
        bureau.regulation(0, 100, 140, 0);
        Check.equal("19 together", bureau.allDue(), 40 + 35 + 30);
        bureau.exempt(0, true);
        Check.equal("19 without exempt ones", bureau.allDue(), 35 + 30);
        bureau.message(1, 1, SkyloadBureau.GO, 95);
        Check.equal("19 without gone ones", bureau.allDue(), 30);
        bureau.message(2, 1, SkyloadBureau.CANCEL, 0);
        Check.equal("19 without cancelled ones", bureau.allDue(), 0);
    }

    private static void wouldChangesNothing() {
        SkyloadBureau bureau = withTimesOver(100, 105, 400);
        bureau.entry(0, 1, 40, 10);
        bureau.regulation(0, 100, 140, 0);
        Check.equal("20 greater by one more", bureau.would(1, 130, 180, 0), 50 + 35);
        Check.equal("20 not greater", bureau.would(1, 130, 160, 0), 40 + 35);
        Check.equal("20 elsewhere", bureau.would(5, 0, 1440, 0), 75);
        Check.equal("20 with slots", bureau.would(0, 100, 1440, 60), 75);
        Check.equal("20 for others too", bureau.would(0, 390, 410, 0), 75 + 10);
        Check.equal("20 nothing changed", bureau.allDue(), 75);
        Check.equal("20 no due more", bureau.due(2), 0);
        Check.noSuch("20 no regulation more", () -> bureau.regulationIs(1, 0));
        for (int i = 1; i < 6; i++) {
            bureau.regulation(5, 0, 1440, 0);
        }
        Check.equal("20 also with six", bureau.would(0, 390, 410, 0), 85);
        Check.equal("20 dealt without it", bureau.deal(true), 75);
    }

    private static void wouldRefuses() {
        SkyloadBureau bureau = withTimesOver(100);
        Check.noSuch("20 sector -1", () -> bureau.would(-1, 0, 1, 0));
        Check.noSuch("20 sector 6", () -> bureau.would(6, 0, 1, 0));
        Check.noSuch("20 sector ahead of from", () -> bureau.would(6, -1, 1, 0));
        Check.badArgument("20 from -1", () -> bureau.would(0, -1, 1, 0));
        Check.badArgument("20 from 1440", () -> bureau.would(0, 1440, 1441, 0));
        Check.badArgument("20 to as from", () -> bureau.would(0, 5, 5, 0));
        Check.badArgument("20 to 1441", () -> bureau.would(0, 5, 1441, 0));
        Check.badArgument("20 rate -1", () -> bureau.would(0, 5, 6, -1));
        Check.badArgument("20 rate 61", () -> bureau.would(0, 5, 6, 61));
        Check.equal("20 the whole day", bureau.would(0, 0, 1440, 0), 1340);
        Check.equal("20 the last minute", bureau.would(0, 1439, 1440, 60), 0);
    }
}
