import java.util.ArrayDeque;
import java.util.Deque;
import java.util.function.IntSupplier;

/** Runs of 512 calls, drawn by a fixed rule, whose answers and exceptions must be those of the Model. */
public final class RandomRunsTest {
    private static final int RUNS = 400;
    private static final int CALLS = 512;
    private static final int ROWS_SHOWN = 30;

    private long drawn;
    private final SkyloadBureau bureau = new SkyloadBureau();
    private final Model model = new Model();
    private final Deque<String> rows = new ArrayDeque<>();
    private int answered = 0;

    // A run is drawn within some minutes and sectors, so that its flights meet often.
    private final int earliest;
    private final int span;
    private final int sectors;
    private final int companies;
    private final int wrongInputs;

    private RandomRunsTest(long seed) {
        drawn = seed * 7919 + 17;
        earliest = below(4) == 0 ? 1340 : below(900);
        span = 5 + below(120);
        sectors = 1 + below(4);
        companies = 1 + below(2);
        wrongInputs = below(3) * 4;
    }

    public static void main(String[] args) {
        int answered = 0;
        for (int seed = 0; seed < RUNS; seed++) {
            RandomRunsTest run = new RandomRunsTest(seed);
            if (!run.agrees()) {
                System.out.println("run " + seed + " differs; its last calls:");
                run.rows.forEach(System.out::println);
                Check.fail("run " + seed);
                break;
            }
            answered += run.answered;
        }
        // A run that only ever throws would test little.
        Check.isTrue("most calls answer, " + answered, answered > RUNS * CALLS / 2);
        Check.finish("RandomRunsTest");
    }

    private boolean agrees() {
        for (int call = 0; call < CALLS; call++) {
            if (!oneCall(call)) {
                return false;
            }
        }
        return true;
    }

    private int below(int bound) {
        drawn = drawn * 6364136223846793005L + 1442695040888963407L;
        return (int) ((drawn >>> 33) % bound);
    }

    /** Mostly a value from least on, now and then one just outside least to most, or far outside. */
    private int value(int least, int most, int usual) {
        if (wrongInputs > 0 && below(100) < wrongInputs) {
            int[] edges = {least - 1, least, most, most + 1, Integer.MIN_VALUE, Integer.MAX_VALUE};
            return edges[below(edges.length)];
        }
        return usual;
    }

    private int minute() {
        return value(0, 1439, Math.min(1439, earliest + below(span)));
    }

    private int flight() {
        return value(0, 23, below(24));
    }

    private int sector() {
        return value(0, 5, below(sectors));
    }

    private int rule() {
        return value(0, 5, below(6));
    }

    private int hourly() {
        return value(0, 60, below(5) == 0 ? 0 : below(3) == 0 ? below(61) : below(20));
    }

    private int to(int from) {
        return value(from + 1, 1440, Math.min(1440, Math.max(0, from) + 1 + below(span)));
    }

    private boolean same(String call, IntSupplier of, IntSupplier due) {
        String got = answer(() -> byTheProgram(of));
        String want = answer(due);
        answered += want.startsWith("throws") ? 0 : 1;
        rows.add(call + " answered " + got + ", due is " + want);
        if (rows.size() > ROWS_SHOWN) {
            rows.remove();
        }
        return got.equals(want);
    }

    private static String answer(IntSupplier call) {
        try {
            return Integer.toString(call.getAsInt());
        } catch (RuntimeException thrown) {
            return "throws." + thrown.getClass().getName();
        }
    }

    private static int byTheProgram(IntSupplier call) {
        try {
            return call.getAsInt();
        } catch (RuntimeException thrown) {
            if (!Check.isThrownByTheProgram(thrown)) {
                throw new AssertionError("thrown by the machine or the library", thrown);
            }
            throw thrown;
        }
    }

    private static int number(boolean is) {
        return is ? 1 : 0;
    }

    private boolean oneCall(int call) {
        if (call < 90) {
            return below(8) == 0 ? tellRegulation() : tellFlight();
        }
        switch (below(5)) {
            case 0:
                return tell();
            case 1:
                return askFlight();
            case 2:
                return askLoad();
            case 3:
                return askRegulation();
            default:
                return askDue();
        }
    }

    private boolean tellFlight() {
        if (below(3) == 0) {
            int company = value(0, 3, below(companies));
            int planned = minute();
            return same("flight(" + company + ", " + planned + ")",
                () -> bureau.flight(company, planned), () -> model.flight(company, planned));
        }
        int flight = flight();
        int sector = sector();
        int behind = value(0, 600, below(40));
        int stays = value(1, 120, 1 + below(30));
        return same("entry(" + flight + ", " + sector + ", " + behind + ", " + stays + ")",
            () -> bureau.entry(flight, sector, behind, stays), () -> model.entry(flight, sector, behind, stays));
    }

    private boolean tellRegulation() {
        int sector = sector();
        int from = minute();
        int to = to(from);
        int rate = hourly();
        return same("regulation(" + sector + ", " + from + ", " + to + ", " + rate + ")",
            () -> bureau.regulation(sector, from, to, rate), () -> model.regulation(sector, from, to, rate));
    }

    private boolean tell() {
        int flight = flight();
        int other = flight();
        boolean is = below(2) == 0;
        switch (below(12)) {
            case 0:
                return tellFlight();
            case 1:
                return tellRegulation();
            case 2:
                return same("exempt(" + flight + ", " + is + ")",
                    () -> number(bureau.exempt(flight, is)), () -> model.exempt(flight, is));
            case 3:
                return tellRate();
            case 4:
                return below(4) != 0 || tellEnd();
            case 5:
            case 6:
                return same("deal(" + is + ")", () -> bureau.deal(is), () -> model.deal(is));
            case 7:
            case 8:
                return tellMessage();
            default:
                return same("swap(" + flight + ", " + other + ")", () -> {
                    bureau.swap(flight, other);
                    return 0;
                }, () -> model.swap(flight, other));
        }
    }

    private boolean tellRate() {
        int regulation = rule();
        int rate = hourly();
        return same("rate(" + regulation + ", " + rate + ")",
            () -> bureau.rate(regulation, rate), () -> model.rate(regulation, rate));
    }

    private boolean tellEnd() {
        int regulation = rule();
        return same("end(" + regulation + ")", () -> {
            bureau.end(regulation);
            return 0;
        }, () -> model.end(regulation));
    }

    private boolean tellMessage() {
        int flight = flight();
        int number = value(1, 99, 1 + below(99));
        int kind = value(0, 2, below(4) == 0 ? 1 + below(2) : 0);
        int minute = kind == 1 ? value(0, 0, 0) : minute();
        return same("message(" + flight + ", " + number + ", " + kind + ", " + minute + ")",
            () -> number(bureau.message(flight, number, kind, minute)),
            () -> model.message(flight, number, kind, minute));
    }

    private boolean askFlight() {
        int flight = flight();
        int sector = sector();
        int company = value(0, 3, below(companies));
        int what = value(0, 7, below(8));
        int line = value(0, 2, below(3));
        switch (below(4)) {
            case 0:
                return same("over(" + flight + ", " + sector + ")",
                    () -> bureau.over(flight, sector), () -> model.over(flight, sector));
            case 1:
                return same("companyIs(" + company + ", " + line + ")",
                    () -> bureau.companyIs(company, line), () -> model.companyIs(company, line));
            default:
                return same("flightIs(" + flight + ", " + what + ")",
                    () -> bureau.flightIs(flight, what), () -> model.flightIs(flight, what));
        }
    }

    private boolean askLoad() {
        int sector = sector();
        int from = value(0, 2999, minute() + below(30));
        int width = value(1, 240, 1 + below(below(2) == 0 ? 240 : 20));
        switch (below(8)) {
            case 0:
                return same("peak(" + sector + ", " + width + ")",
                    () -> bureau.peak(sector, width), () -> model.peak(sector, width));
            case 1:
                return same("peakAnew(" + sector + ", " + width + ")",
                    () -> bureau.peakAnew(sector, width), () -> model.peak(sector, width));
            case 2:
            case 3:
            case 4:
                return same("inside(" + sector + ", " + from + ")",
                    () -> bureau.inside(sector, from), () -> model.inside(sector, from));
            default:
                return same("load(" + sector + ", " + from + ", " + width + ")",
                    () -> bureau.load(sector, from, width), () -> model.load(sector, from, width));
        }
    }

    private boolean askRegulation() {
        int regulation = rule();
        int what = value(0, 6, below(7));
        int slot = value(0, 1439, below(20));
        int flight = flight();
        switch (below(4)) {
            case 0:
                return same("slot(" + regulation + ", " + slot + ")",
                    () -> bureau.slot(regulation, slot), () -> model.slot(regulation, slot));
            case 1:
                return same("penalty(" + flight + ", " + regulation + ")",
                    () -> bureau.penalty(flight, regulation), () -> model.penalty(flight, regulation));
            default:
                return same("regulationIs(" + regulation + ", " + what + ")",
                    () -> bureau.regulationIs(regulation, what), () -> model.regulationIs(regulation, what));
        }
    }

    private boolean askDue() {
        int flight = flight();
        int sector = sector();
        int from = minute();
        int to = to(from);
        int rate = hourly();
        switch (below(4)) {
            case 0:
                return same("due(" + flight + ")", () -> bureau.due(flight), () -> model.due(flight));
            case 1:
                return same("dueAnew(" + flight + ")", () -> bureau.dueAnew(flight), () -> model.due(flight));
            case 2:
                return same("allDue()", bureau::allDue, model::allDue);
            default:
                return same("would(" + sector + ", " + from + ", " + to + ", " + rate + ")",
                    () -> bureau.would(sector, from, to, rate), () -> model.would(sector, from, to, rate));
        }
    }
}
