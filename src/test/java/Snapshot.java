import java.util.function.IntSupplier;

/**
 * What can be asked of a bureau, and what the next calls make of it, as one text. It is the last that is done with
 * the bureau, as it tells something too, and it stays within the 512 calls that are promised.
 */
final class Snapshot {
    private static final int MOST_CALLS = 470;

    private final SkyloadBureau bureau;
    private final StringBuilder text = new StringBuilder();
    private int calls = 0;

    private Snapshot(SkyloadBureau bureau) {
        this.bureau = bureau;
    }

    static String of(SkyloadBureau bureau) {
        Snapshot snapshot = new Snapshot(bureau);
        int flights = snapshot.count("flights", false);
        int regulations = snapshot.count("regulations", true);
        snapshot.askFlights(flights);
        snapshot.askRegulations(regulations, flights);
        snapshot.askCompanies();
        snapshot.askSectors();
        snapshot.goOn(flights);
        if (snapshot.calls > MOST_CALLS) {
            throw new AssertionError("a snapshot of " + snapshot.calls + " calls is too long");
        }
        return snapshot.text.toString();
    }

    private int count(String what, boolean ofRegulations) {
        for (int i = 0;; i++) {
            calls++;
            try {
                if (ofRegulations) {
                    bureau.regulationIs(i, 0);
                } else {
                    bureau.flightIs(i, 0);
                }
            } catch (IndexOutOfBoundsException thrown) {
                text.append(what).append(' ').append(i).append('\n');
                return i;
            }
        }
    }

    private void ask(IntSupplier call) {
        calls++;
        text.append(' ');
        try {
            text.append(call.getAsInt());
        } catch (RuntimeException thrown) {
            text.append(thrown.getClass().getSimpleName());
        }
    }

    private void line(String what) {
        text.append(what).append('\n');
    }

    private void askFlights(int flights) {
        for (int i = 0; i < flights; i++) {
            int flight = i;
            for (int j = 1; j < 8; j++) {
                int what = j;
                ask(() -> bureau.flightIs(flight, what));
            }
            ask(() -> bureau.flightIs(flight, 0));
            for (int j = 0; j < 6; j++) {
                int sector = j;
                ask(() -> bureau.over(flight, sector));
            }
            ask(() -> bureau.due(flight));
            line(" flight " + flight);
        }
    }

    private void askRegulations(int regulations, int flights) {
        for (int i = 0; i < regulations; i++) {
            int regulation = i;
            for (int j = 0; j < 7; j++) {
                int what = j;
                ask(() -> bureau.regulationIs(regulation, what));
            }
            ask(() -> bureau.slot(regulation, 0));
            ask(() -> bureau.slot(regulation, 1));
            for (int j = 0; j < flights; j++) {
                int flight = j;
                ask(() -> bureau.penalty(flight, regulation));
            }
            line(" regulation " + regulation);
        }
    }

    private void askCompanies() {
        for (int i = 0; i < 12; i++) {
            int number = i;
            ask(() -> bureau.companyIs(number / 3, number % 3));
        }
        ask(bureau::allDue);
        line(" companies, all due");
    }

    private void askSectors() {
        for (int i = 0; i < 6; i++) {
            int sector = i;
            ask(() -> bureau.peak(sector, 30));
        }
        line(" peaks");
    }

    private void goOn(int flights) {
        ask(() -> bureau.deal(false));
        for (int i = 0; i < flights; i++) {
            int flight = i;
            ask(() -> bureau.flightIs(flight, 2));
            ask(() -> bureau.flightIs(flight, 3));
        }
        line(" dealt");
        ask(() -> bureau.flight(0, 0));
        ask(() -> bureau.regulation(0, 0, 1440, 0));
        ask(bureau::allDue);
        line(" told, all due");
    }
}
