/** Bureaus for tests to begin with. */
final class Made {
    // The flights of busy().
    static final int EXEMPT = 0;
    static final int FIRST = 1;
    static final int SECOND = 2;
    static final int GONE = 3;
    static final int CANCELLED = 4;
    static final int GONE_AT_WILL = 5;
    static final int FREE = 6;
    static final int LAST_FLIGHT = 6;

    // The regulations of busy().
    static final int RULING = 0;
    static final int ENDED = 1;
    static final int SHUT = 2;
    static final int LAST_REGULATION = 2;

    private Made() {
    }

    static SkyloadBureau empty() {
        return new SkyloadBureau();
    }

    /** Flights of company 0 without entries. */
    static SkyloadBureau planned(int... minutes) {
        SkyloadBureau bureau = new SkyloadBureau();
        for (int minute : minutes) {
            bureau.flight(0, minute);
        }
        return bureau;
    }

    /** Flights of company 0 that enter sector 0 as they depart, and stay for 20 minutes. */
    static SkyloadBureau over(int... minutes) {
        SkyloadBureau bureau = planned(minutes);
        for (int i = 0; i < minutes.length; i++) {
            bureau.entry(i, 0, 0, 20);
        }
        return bureau;
    }

    /** Just one regulation, of sector 0. */
    static SkyloadBureau regulated(int from, int to, int rate) {
        SkyloadBureau bureau = new SkyloadBureau();
        bureau.regulation(0, from, to, rate);
        return bureau;
    }

    static SkyloadBureau fullOfFlights() {
        SkyloadBureau bureau = new SkyloadBureau();
        for (int i = 0; i < 24; i++) {
            bureau.flight(i % 4, i * 60);
        }
        return bureau;
    }

    static SkyloadBureau fullOfRegulations() {
        SkyloadBureau bureau = over(700);
        for (int i = 0; i < 6; i++) {
            bureau.regulation(i, 600 + i, 800 - i, 10 * i);
        }
        return bureau;
    }

    /** The flight 0 as full of entries as it can be. */
    static SkyloadBureau fullOfEntries() {
        SkyloadBureau bureau = planned(100);
        for (int i = 0; i < 5; i++) {
            bureau.entry(0, i, 10 * i, 5);
        }
        return bureau;
    }

    /**
     * Flights of every kind: FIRST and SECOND wait with slot times, 610 and 620, and could be swapped; GONE and
     * CANCELLED have kept theirs. Regulations of every kind, too.
     */
    static SkyloadBureau busy() {
        SkyloadBureau bureau = planned(600, 600, 600, 600, 600);
        for (int i = 0; i < 5; i++) {
            bureau.entry(i, 0, 10, 20);
            bureau.entry(i, 1, 30, 5);
        }
        bureau.flight(1, 700);
        bureau.flight(2, 620);
        bureau.entry(FREE, 5, 0, 120);
        bureau.regulation(0, 600, 660, 6);
        bureau.deal(true);
        bureau.exempt(EXEMPT, true);
        bureau.message(GONE, 1, SkyloadBureau.GO, 641);
        bureau.message(CANCELLED, 2, SkyloadBureau.CANCEL, 0);
        bureau.message(GONE_AT_WILL, 3, SkyloadBureau.GO, 700);
        bureau.message(FIRST, 4, SkyloadBureau.REPLAN, 601);
        bureau.regulation(5, 0, 1440, 60);
        bureau.end(ENDED);
        bureau.regulation(1, 620, 640, 0);
        return bureau;
    }
}
