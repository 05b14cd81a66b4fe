/** Promises 7 to 10: load, inside, peak, peakAnew. */
public final class LoadsTest {
    private static final int HIGHEST = Integer.MAX_VALUE;

    public static void main(String[] args) {
        loadCountsTheWindow();
        loadRefuses();
        loadFollowsTheDeparture();
        insideCountsTheStay();
        insideRefuses();
        peaksAreTheGreatest();
        peaksAtTheEnds();
        peaksRefuse();
        Check.finish("LoadsTest");
    }

    private static SkyloadBureau withFlightsAt(int... planned) {
        SkyloadBureau bureau = new SkyloadBureau();
        for (int minute : planned) {
            bureau.entry(bureau.flight(0, minute), 0, 10, 20);
        }
        return bureau;
    }

    private static void bothPeaks(SkyloadBureau bureau, int sector, int width, int due) {
        Check.equal("9 peak of " + width, bureau.peak(sector, width), due);
        Check.equal("10 peakAnew of " + width, bureau.peakAnew(sector, width), due);
    }

    private static void loadCountsTheWindow() {
        SkyloadBureau bureau = withFlightsAt(100, 105, 105, 300);
        Check.equal("7 from the beginning on", bureau.load(0, 110, 1), 1);
        Check.equal("7 ahead of the end", bureau.load(0, 110, 5), 1);
        Check.equal("7 the end's minute", bureau.load(0, 110, 6), 3);
        Check.equal("7 ahead of the window", bureau.load(0, 111, 4), 0);
        Check.equal("7 just not the last one", bureau.load(0, 110, 200), 3);
        Check.equal("7 just the last one", bureau.load(0, 110, 201), 4);
        Check.equal("7 the widest", bureau.load(0, 111, 240), 3);
        Check.equal("7 not the planned time", bureau.load(0, 100, 10), 0);
        Check.equal("7 another sector", bureau.load(1, 0, 240), 0);
        Check.equal("7 the last window", bureau.load(0, 2999, 240), 0);
    }

    private static void loadRefuses() {
        SkyloadBureau bureau = withFlightsAt(0);
        Check.noSuch("7 sector -1", () -> bureau.load(-1, 0, 1));
        Check.noSuch("7 sector 6", () -> bureau.load(6, 0, 1));
        Check.noSuch("7 sector ahead of from", () -> bureau.load(6, -1, 0));
        Check.badArgument("7 from -1", () -> bureau.load(0, -1, 1));
        Check.badArgument("7 from 3000", () -> bureau.load(0, 3000, 1));
        Check.badArgument("7 from highest", () -> bureau.load(0, HIGHEST, 1));
        Check.badArgument("7 width 0", () -> bureau.load(0, 0, 0));
        Check.badArgument("7 width 241", () -> bureau.load(0, 0, 241));
        Check.equal("7 width 240", bureau.load(0, 0, 240), 1);
    }

    private static void loadFollowsTheDeparture() {
        SkyloadBureau bureau = withFlightsAt(100, 100, 100);
        bureau.message(0, 1, SkyloadBureau.CANCEL, 0);
        Check.equal("7 cancelled", bureau.load(0, 110, 1), 2);
        bureau.message(1, 1, SkyloadBureau.GO, 90);
        Check.equal("7 gone, planned", bureau.load(0, 110, 1), 1);
        Check.equal("7 gone", bureau.load(0, 100, 1), 1);
        bureau.regulation(0, 110, 120, 0);
        bureau.deal(true);
        Check.equal("7 dealt, planned", bureau.load(0, 110, 10), 0);
        Check.equal("7 dealt", bureau.load(0, 120, 1), 1);
    }

    private static void insideCountsTheStay() {
        SkyloadBureau bureau = withFlightsAt(100, 100, 110);
        Check.equal("8 ahead", bureau.inside(0, 109), 0);
        Check.equal("8 first minute", bureau.inside(0, 110), 2);
        Check.equal("8 both", bureau.inside(0, 120), 3);
        Check.equal("8 last minute", bureau.inside(0, 129), 3);
        Check.equal("8 stayed as long", bureau.inside(0, 130), 1);
        Check.equal("8 all left", bureau.inside(0, 140), 0);
        Check.equal("8 another sector", bureau.inside(1, 120), 0);
        bureau.message(0, 1, SkyloadBureau.CANCEL, 0);
        Check.equal("8 cancelled", bureau.inside(0, 110), 1);
        bureau.message(1, 1, SkyloadBureau.GO, 150);
        Check.equal("8 gone later", bureau.inside(0, 160), 1);
        SkyloadBureau late = new SkyloadBureau();
        late.entry(late.flight(0, 1439), 5, 600, 120);
        Check.equal("8 behind the day", late.inside(5, 2158), 1);
        Check.equal("8 behind the stay", late.inside(5, 2159), 0);
        Check.equal("8 the last minute", late.inside(5, 2999), 0);
    }

    private static void insideRefuses() {
        SkyloadBureau bureau = withFlightsAt(0);
        Check.noSuch("8 sector -1", () -> bureau.inside(-1, 0));
        Check.noSuch("8 sector 6", () -> bureau.inside(6, 0));
        Check.noSuch("8 sector ahead of minute", () -> bureau.inside(6, 3000));
        Check.badArgument("8 minute -1", () -> bureau.inside(0, -1));
        Check.badArgument("8 minute 3000", () -> bureau.inside(0, 3000));
        Check.equal("8 minute 0", bureau.inside(0, 0), 0);
    }

    private static void peaksAreTheGreatest() {
        SkyloadBureau bureau = withFlightsAt(300, 100, 104, 107, 301, 109);
        bothPeaks(bureau, 0, 1, 1);
        bothPeaks(bureau, 0, 2, 2);
        bothPeaks(bureau, 0, 3, 2);
        bothPeaks(bureau, 0, 6, 3);
        bothPeaks(bureau, 0, 9, 3);
        bothPeaks(bureau, 0, 10, 4);
        bothPeaks(bureau, 0, 201, 5);
        bothPeaks(bureau, 0, 202, 6);
        bothPeaks(bureau, 0, 240, 6);
        bothPeaks(bureau, 1, 240, 0);
        bureau.message(2, 1, SkyloadBureau.CANCEL, 0);
        bothPeaks(bureau, 0, 10, 3);
        bureau.message(1, 1, SkyloadBureau.GO, 302);
        bothPeaks(bureau, 0, 10, 3);
        bothPeaks(bureau, 0, 3, 3);
    }

    private static void peaksAtTheEnds() {
        SkyloadBureau bureau = new SkyloadBureau();
        bureau.entry(bureau.flight(0, 0), 4, 0, 1);
        bothPeaks(bureau, 4, 1, 1);
        bureau.entry(bureau.flight(0, 1439), 4, 600, 1);
        bureau.entry(bureau.flight(0, 1438), 4, 600, 1);
        bothPeaks(bureau, 4, 1, 1);
        bothPeaks(bureau, 4, 2, 2);
        for (int i = 3; i < 24; i++) {
            bureau.entry(bureau.flight(i % 4, 1439), 4, 600, 1);
        }
        bothPeaks(bureau, 4, 1, 22);
        bothPeaks(bureau, 4, 240, 23);
    }

    private static void peaksRefuse() {
        SkyloadBureau bureau = withFlightsAt(0);
        Check.noSuch("9 sector -1", () -> bureau.peak(-1, 1));
        Check.noSuch("9 sector 6", () -> bureau.peak(6, 1));
        Check.noSuch("9 sector ahead of width", () -> bureau.peak(6, 0));
        Check.badArgument("9 width 0", () -> bureau.peak(0, 0));
        Check.badArgument("9 width 241", () -> bureau.peak(0, 241));
        Check.noSuch("10 sector -1", () -> bureau.peakAnew(-1, 1));
        Check.noSuch("10 sector 6", () -> bureau.peakAnew(6, 1));
        Check.noSuch("10 sector ahead of width", () -> bureau.peakAnew(6, 0));
        Check.badArgument("10 width 0", () -> bureau.peakAnew(0, 0));
        Check.badArgument("10 width 241", () -> bureau.peakAnew(0, 241));
    }
}
