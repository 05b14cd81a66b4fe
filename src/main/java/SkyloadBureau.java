import java.util.ArrayList;

/** Keeps the sky from being fuller than it can be watched: flights, loads, regulations, slots and delays. */
public final class SkyloadBureau {
    public static final int NONE = -1;
    public static final int WAITING = 0, GONE = 1, CANCELLED = 2;
    public static final int REPLAN = 0, CANCEL = 1, GO = 2;

    private static final int SECTORS = 6;
    private static final int COMPANIES = 4;
    private static final int MOST_FLIGHTS = 24;
    private static final int MOST_ENTRIES = 5;
    private static final int MOST_REGULATIONS = 6;
    private static final int LAST_MINUTE = 1439;
    private static final int END_OF_DAY = 1440;
    private static final int LAST_WATCHED_MINUTE = 2999;
    private static final int WIDEST_WINDOW = 240;
    private static final int MOST_BEHIND = 600;
    private static final int LONGEST_STAY = 120;
    private static final int HOUR = 60;
    private static final int HIGHEST_RATE = 60;
    private static final int LAST_MESSAGE = 99;
    private static final int WINDOW_AHEAD = 5;
    private static final int WINDOW_BEHIND = 10;
    private static final int LAST_OF_FLIGHT = 7;
    private static final int LAST_OF_REGULATION = 6;
    private static final int LAST_OF_COMPANY = 2;

    private final ArrayList<Flight> flights = new ArrayList<Flight>();
    private final ArrayList<Regulation> regulations = new ArrayList<Regulation>();
    private final Dealing dealing = new Dealing();
    private final Line entering = new Line();

    public SkyloadBureau() {
    }

    // ---- flights

    public int flight(int company, int planned)
            throws IndexOutOfBoundsException, IllegalArgumentException, IllegalStateException {
        checkCompany(company);
        checkRange(planned, 0, LAST_MINUTE);
        if (flights.size() >= MOST_FLIGHTS) {
            throw new IllegalStateException("no more flights can be told");
        }
        flights.add(new Flight(company, planned));
        return flights.size() - 1;
    }

    public int entry(int flight, int sector, int behind, int stays)
            throws IndexOutOfBoundsException, IllegalArgumentException, IllegalStateException {
        Flight told = flightAt(flight);
        checkSector(sector);
        checkRange(behind, 0, MOST_BEHIND);
        checkRange(stays, 1, LONGEST_STAY);
        if (!told.canEnterNext(sector, behind)) {
            throw new IllegalStateException("the flight cannot have this entry");
        }
        told.addEntry(sector, behind, stays);
        return told.entryCount;
    }

    public boolean exempt(int flight, boolean is) throws IndexOutOfBoundsException, IllegalStateException {
        Flight told = flightAt(flight);
        if (told.state != WAITING) {
            throw new IllegalStateException("the flight is not waiting");
        }
        boolean was = told.isExempt;
        told.isExempt = is;
        if (is) {
            told.loseSlotTime();
        }
        return was;
    }

    public int flightIs(int flight, int what) throws IndexOutOfBoundsException, IllegalArgumentException {
        Flight asked = flightAt(flight);
        checkRange(what, 0, LAST_OF_FLIGHT);
        switch (what) {
            case 0:
                return asked.state;
            case 1:
                return asked.planned;
            case 2:
                return asked.slotTime;
            case 3:
                return asked.ruling;
            case 4:
                return asked.departure();
            case 5:
                return asked.entryCount;
            case 6:
                return asked.latestMessage;
            default:
                return asked.isExempt ? 1 : 0;
        }
    }

    public int over(int flight, int sector) throws IndexOutOfBoundsException {
        Flight asked = flightAt(flight);
        checkSector(sector);
        return asked.timeOver(sector);
    }

    // ---- loads

    public int load(int sector, int from, int width) throws IndexOutOfBoundsException, IllegalArgumentException {
        checkSector(sector);
        checkRange(from, 0, LAST_WATCHED_MINUTE);
        checkRange(width, 1, WIDEST_WINDOW);
        return loadOf(sector, from, width);
    }

    public int inside(int sector, int minute) throws IndexOutOfBoundsException, IllegalArgumentException {
        checkSector(sector);
        checkRange(minute, 0, LAST_WATCHED_MINUTE);
        int count = 0;
        for (int i = 0; i < flights.size(); i++) {
            if (flights.get(i).isInside(sector, minute)) {
                count++;
            }
        }
        return count;
    }

    public int peak(int sector, int width) throws IndexOutOfBoundsException, IllegalArgumentException {
        checkSector(sector);
        checkRange(width, 1, WIDEST_WINDOW);
        lineUpEntering(sector);
        int ahead = 0;
        int reached = 0;
        int greatest = 0;
        for (int begin = 0; begin <= LAST_WATCHED_MINUTE; begin++) {
            ahead = entering.countAheadOf(begin, ahead);
            reached = entering.countAheadOf(begin + width, reached);
            greatest = Math.max(greatest, reached - ahead);
        }
        return greatest;
    }

    public int peakAnew(int sector, int width) throws IndexOutOfBoundsException, IllegalArgumentException {
        checkSector(sector);
        checkRange(width, 1, WIDEST_WINDOW);
        int greatest = 0;
        for (int i = 0; i < flights.size(); i++) {
            Flight flight = flights.get(i);
            if (flight.loads(sector)) {
                greatest = Math.max(greatest, loadOf(sector, flight.timeOver(sector), width));
            }
        }
        return greatest;
    }

    // ---- regulations

    public int regulation(int sector, int from, int to, int rate)
            throws IndexOutOfBoundsException, IllegalArgumentException, IllegalStateException {
        checkSector(sector);
        checkTerm(from, to, rate);
        if (regulations.size() >= MOST_REGULATIONS) {
            throw new IllegalStateException("no more regulations can be told");
        }
        regulations.add(new Regulation(sector, from, to, rate));
        return regulations.size() - 1;
    }

    public int rate(int regulation, int rate)
            throws IndexOutOfBoundsException, IllegalArgumentException, IllegalStateException {
        Regulation told = regulationAt(regulation);
        checkRange(rate, 0, HIGHEST_RATE);
        checkNotEnded(told);
        int before = told.rate;
        told.rate = rate;
        return before;
    }

    public void end(int regulation) throws IndexOutOfBoundsException, IllegalStateException {
        Regulation told = regulationAt(regulation);
        checkNotEnded(told);
        told.isEnded = true;
    }

    public int regulationIs(int regulation, int what) throws IndexOutOfBoundsException, IllegalArgumentException {
        Regulation asked = regulationAt(regulation);
        checkRange(what, 0, LAST_OF_REGULATION);
        dealing.dealOut(asked, flights);
        switch (what) {
            case 0:
                return dealing.slotCount;
            case 1:
                return dealing.freeCount;
            case 2:
                return dealing.fixed.count;
            case 3:
                return dealing.listed.count;
            case 4:
                return dealing.listedWithout;
            case 5:
                return asked.rate;
            default:
                return chargedToRegulation(regulation);
        }
    }

    public int slot(int regulation, int slot) throws IndexOutOfBoundsException {
        Regulation asked = regulationAt(regulation);
        if (slot < 0) {
            throw new IndexOutOfBoundsException("slots are numbered from 0");
        }
        return slot < asked.slotCount() ? asked.slotBegin(slot) : NONE;
    }

    public int penalty(int flight, int regulation) throws IndexOutOfBoundsException {
        flightAt(flight);
        Regulation asked = regulationAt(regulation);
        dealing.dealOut(asked, flights);
        return dealing.listed.penaltyOf(flight);
    }

    public int due(int flight) throws IndexOutOfBoundsException {
        Flight asked = flightAt(flight);
        reckonDues();
        return asked.reckonedDue;
    }

    public int dueAnew(int flight) throws IndexOutOfBoundsException {
        flightAt(flight);
        int greatest = 0;
        for (int i = 0; i < regulations.size(); i++) {
            greatest = Math.max(greatest, dealing.penaltyBySlots(regulations.get(i), flights, flight));
        }
        return greatest;
    }

    public int allDue() {
        reckonDues();
        return sumOfDues();
    }

    public int would(int sector, int from, int to, int rate)
            throws IndexOutOfBoundsException, IllegalArgumentException {
        checkSector(sector);
        checkTerm(from, to, rate);
        reckonDues();
        reckonPenalties(new Regulation(sector, from, to, rate), regulations.size());
        return sumOfDues();
    }

    // ---- deals, swaps and messages

    public int deal(boolean mayWorsen) {
        reckonDues();
        int minutes = 0;
        for (int i = 0; i < flights.size(); i++) {
            Flight flight = flights.get(i);
            if (flight.state == WAITING) {
                flight.takeReckoned(mayWorsen);
                minutes += flight.delay();
            }
        }
        return minutes;
    }

    public void swap(int flight, int other)
            throws IndexOutOfBoundsException, IllegalArgumentException, IllegalStateException {
        Flight one = flightAt(flight);
        Flight two = flightAt(other);
        if (flight == other) {
            throw new IllegalArgumentException("a flight is not swapped with itself");
        }
        if (!one.sharesRuling(two)) {
            throw new IllegalStateException("the flights cannot be swapped");
        }
        int sector = regulationAt(one.ruling).sector;
        int slotOfOne = two.timeOver(sector) - one.behindAt(sector);
        int slotOfTwo = one.timeOver(sector) - two.behindAt(sector);
        if (slotOfOne < one.planned || slotOfTwo < two.planned) {
            throw new IllegalStateException("a slot time would be ahead of the planned time");
        }
        one.slotTime = slotOfOne;
        two.slotTime = slotOfTwo;
    }

    public boolean message(int flight, int number, int kind, int minute)
            throws IndexOutOfBoundsException, IllegalArgumentException {
        Flight told = flightAt(flight);
        checkRange(number, 1, LAST_MESSAGE);
        checkRange(kind, REPLAN, GO);
        checkRange(minute, 0, kind == CANCEL ? 0 : LAST_MINUTE);
        if (told.state != WAITING || number <= told.latestMessage) {
            return false;
        }
        told.latestMessage = number;
        told.follow(kind, minute);
        return true;
    }

    public int companyIs(int company, int what) throws IndexOutOfBoundsException, IllegalArgumentException {
        checkCompany(company);
        checkRange(what, 0, LAST_OF_COMPANY);
        int sum = 0;
        for (int i = 0; i < flights.size(); i++) {
            Flight flight = flights.get(i);
            if (flight.company == company) {
                sum += flight.ledgerLine(what);
            }
        }
        return sum;
    }

    // ---- what arguments must be

    private Flight flightAt(int number) {
        if (number < 0 || number >= flights.size()) {
            throw new IndexOutOfBoundsException("no such flight");
        }
        return flights.get(number);
    }

    private Regulation regulationAt(int number) {
        if (number < 0 || number >= regulations.size()) {
            throw new IndexOutOfBoundsException("no such regulation");
        }
        return regulations.get(number);
    }

    private static void checkSector(int sector) {
        if (sector < 0 || sector >= SECTORS) {
            throw new IndexOutOfBoundsException("no such sector");
        }
    }

    private static void checkCompany(int company) {
        if (company < 0 || company >= COMPANIES) {
            throw new IndexOutOfBoundsException("no such company");
        }
    }

    private static void checkRange(int value, int least, int most) {
        if (value < least || value > most) {
            throw new IllegalArgumentException("an argument is out of range");
        }
    }

    private static void checkTerm(int from, int to, int rate) {
        checkRange(from, 0, LAST_MINUTE);
        checkRange(to, from + 1, END_OF_DAY);
        checkRange(rate, 0, HIGHEST_RATE);
    }

    private static void checkNotEnded(Regulation regulation) {
        if (regulation.isEnded) {
            throw new IllegalStateException("the regulation is ended");
        }
    }

    // ---- what several calls need

    private int loadOf(int sector, int from, int width) {
        int count = 0;
        for (int i = 0; i < flights.size(); i++) {
            Flight flight = flights.get(i);
            int time = flight.timeOver(sector);
            if (flight.loads(sector) && time >= from && time < from + width) {
                count++;
            }
        }
        return count;
    }

    private void lineUpEntering(int sector) {
        entering.clear();
        for (int i = 0; i < flights.size(); i++) {
            Flight flight = flights.get(i);
            if (flight.loads(sector)) {
                entering.add(i, flight.timeOver(sector));
            }
        }
    }

    private void reckonDues() {
        for (int i = 0; i < flights.size(); i++) {
            flights.get(i).forgetReckoned();
        }
        for (int i = 0; i < regulations.size(); i++) {
            reckonPenalties(regulations.get(i), i);
        }
    }

    private void reckonPenalties(Regulation regulation, int number) {
        dealing.dealOut(regulation, flights);
        for (int i = 0; i < flights.size(); i++) {
            flights.get(i).reckon(dealing.listed.penaltyOf(i), number);
        }
    }

    private int sumOfDues() {
        int sum = 0;
        for (int i = 0; i < flights.size(); i++) {
            sum += flights.get(i).reckonedDue;
        }
        return sum;
    }

    private int chargedToRegulation(int regulation) {
        int sum = 0;
        for (int i = 0; i < flights.size(); i++) {
            Flight flight = flights.get(i);
            if (flight.ruling == regulation) {
                sum += flight.charge();
            }
        }
        return sum;
    }

    /**
     * A flight with its entries, its slot time and its latest message. What was charged as it went is not kept:
     * a flight that is gone changes no more, so that it can be found again from its times.
     */
    private static final class Flight {
        final int company;
        int planned;
        int state = WAITING;
        boolean isExempt = false;
        int slotTime = NONE;
        int ruling = NONE;
        int wentAt = NONE;
        int latestMessage = 0;
        int entryCount = 0;
        int latestBehind = NONE;
        // By sector; NONE where the flight does not enter.
        final int[] behinds = new int[SECTORS];
        final int[] stays = new int[SECTORS];
        // What the latest reckoning of the dues found; kept here, so that no rows are made for each reckoning.
        int reckonedDue = 0;
        int reckonedRuling = NONE;

        Flight(int company, int planned) {
            this.company = company;
            this.planned = planned;
            for (int i = 0; i < behinds.length; i++) {
                behinds[i] = NONE;
            }
        }

        boolean canEnterNext(int sector, int behind) {
            return state == WAITING && slotTime == NONE && entryCount < MOST_ENTRIES
                && !enters(sector) && latestBehind < behind;
        }

        void addEntry(int sector, int behind, int stay) {
            if (sector < 0 || sector >= behinds.length || sector >= stays.length) {
                return;
            }
            behinds[sector] = behind;
            stays[sector] = stay;
            latestBehind = behind;
            entryCount++;
        }

        int behindAt(int sector) {
            return sector >= 0 && sector < behinds.length ? behinds[sector] : NONE;
        }

        int stayAt(int sector) {
            return sector >= 0 && sector < stays.length ? stays[sector] : 0;
        }

        boolean enters(int sector) {
            return behindAt(sector) != NONE;
        }

        int departure() {
            if (state == GONE) {
                return wentAt;
            }
            return slotTime != NONE ? slotTime : planned;
        }

        int timeOver(int sector) {
            int behind = behindAt(sector);
            return behind != NONE ? departure() + behind : NONE;
        }

        boolean loads(int sector) {
            return state != CANCELLED && enters(sector);
        }

        boolean isInside(int sector, int minute) {
            int time = timeOver(sector);
            return loads(sector) && time <= minute && minute < time + stayAt(sector);
        }

        boolean isFixed() {
            return state == GONE || state == WAITING && isExempt;
        }

        boolean isListed() {
            return state == WAITING && !isExempt;
        }

        /** The time over a sector by which a regulation lines the flight up: the planned one, till it is gone. */
        int lineTime(int sector) {
            int behind = behindAt(sector);
            if (behind == NONE) {
                return NONE;
            }
            return (state == GONE ? wentAt : planned) + behind;
        }

        void loseSlotTime() {
            slotTime = NONE;
            ruling = NONE;
        }

        /** The minutes from the planned time to the slot time. */
        int delay() {
            return slotTime != NONE ? slotTime - planned : 0;
        }

        int charge() {
            return state == GONE ? delay() : 0;
        }

        boolean wentOutOfWindow() {
            return state == GONE && slotTime != NONE
                && (wentAt < slotTime - WINDOW_AHEAD || wentAt > slotTime + WINDOW_BEHIND);
        }

        int ledgerLine(int what) {
            switch (what) {
                case 0:
                    return charge();
                case 1:
                    return wentOutOfWindow() ? 1 : 0;
                default:
                    return state == GONE ? 1 : 0;
            }
        }

        void forgetReckoned() {
            reckonedDue = 0;
            reckonedRuling = NONE;
        }

        /** Regulations come by rising numbers, so of like penalties the lowest regulation stays. */
        void reckon(int penalty, int regulation) {
            if (penalty > reckonedDue) {
                reckonedDue = penalty;
                reckonedRuling = regulation;
            }
        }

        void takeReckoned(boolean mayWorsen) {
            if (!isListed()) {
                return;
            }
            if (reckonedDue == 0) {
                loseSlotTime();
                return;
            }
            int dealt = planned + reckonedDue;
            if (mayWorsen || slotTime == NONE || dealt <= slotTime) {
                slotTime = dealt;
                ruling = reckonedRuling;
            }
        }

        boolean sharesRuling(Flight other) {
            return state == WAITING && other.state == WAITING && company == other.company
                && slotTime != NONE && other.slotTime != NONE && ruling == other.ruling;
        }

        void follow(int kind, int minute) {
            if (kind == REPLAN) {
                planned = minute;
                if (slotTime < minute) {
                    loseSlotTime();
                }
            } else if (kind == CANCEL) {
                state = CANCELLED;
            } else {
                state = GONE;
                wentAt = minute;
            }
        }
    }

    /** A regulation of a sector, and where its slots begin and end. */
    private static final class Regulation {
        final int sector;
        final int from;
        final int to;
        int rate;
        boolean isEnded = false;

        Regulation(int sector, int from, int to, int rate) {
            this.sector = sector;
            this.from = from;
            this.to = to;
            this.rate = rate;
        }

        boolean holdsAt(int minute) {
            return minute >= from && minute < to;
        }

        int slotCount() {
            return isEnded ? 0 : ((to - from) * rate + HOUR - 1) / HOUR;
        }

        int slotBegin(int slot) {
            return rate > 0 ? from + HOUR * slot / rate : to;
        }

        int slotEnd(int slot) {
            return Math.min(slotBegin(slot + 1), to);
        }
    }

    /** Flights in the order of their times, with the slots that they got and the times at which these aim. */
    private static final class Line {
        final int[] numbers = new int[MOST_FLIGHTS];
        final int[] times = new int[MOST_FLIGHTS];
        final int[] slots = new int[MOST_FLIGHTS];
        final int[] targets = new int[MOST_FLIGHTS];
        int count = 0;

        void clear() {
            count = 0;
        }

        /** Flights are added by rising numbers, so one goes behind those of like times. */
        void add(int number, int time) {
            if (count >= MOST_FLIGHTS) {
                return;
            }
            int place = count;
            while (place > 0 && times[place - 1] > time) {
                numbers[place] = numbers[place - 1];
                times[place] = times[place - 1];
                place--;
            }
            numbers[place] = number;
            times[place] = time;
            slots[count] = NONE;
            targets[count] = NONE;
            count++;
        }

        boolean has(int place) {
            return place >= 0 && place < count && place < MOST_FLIGHTS;
        }

        int timeAt(int place) {
            return has(place) ? times[place] : NONE;
        }

        void give(int place, int slot, int target) {
            if (has(place)) {
                slots[place] = slot;
                targets[place] = target;
            }
        }

        boolean hasGiven(int slot) {
            for (int place = 0; place < count && place < slots.length; place++) {
                if (slots[place] == slot) {
                    return true;
                }
            }
            return false;
        }

        int placeOf(int number) {
            for (int place = 0; place < count && place < numbers.length; place++) {
                if (numbers[place] == number) {
                    return place;
                }
            }
            return NONE;
        }

        int penaltyOf(int number) {
            int place = placeOf(number);
            return has(place) ? targets[place] - times[place] : NONE;
        }

        /** How many times are ahead of a minute, if it is known that at least so many are. */
        int countAheadOf(int minute, int atLeast) {
            int ahead = atLeast;
            while (ahead < count && timeAt(ahead) < minute) {
                ahead++;
            }
            return ahead;
        }

        boolean canTake(int place, int slotEnd) {
            return has(place) && times[place] < slotEnd;
        }
    }

    /** The lines of one regulation at a time and how its slots are dealt; its rows serve all regulations in turn. */
    private static final class Dealing {
        final Line fixed = new Line();
        final Line listed = new Line();
        int slotCount = 0;
        int freeCount = 0;
        int listedWithout = 0;

        void dealOut(Regulation regulation, ArrayList<Flight> flights) {
            lineUp(regulation, flights);
            int fixedWithout = serve(fixed, regulation);
            listedWithout = serve(listed, regulation);
            freeCount = slotCount - (fixed.count - fixedWithout) - (listed.count - listedWithout);
        }

        private void lineUp(Regulation regulation, ArrayList<Flight> flights) {
            fixed.clear();
            listed.clear();
            slotCount = regulation.slotCount();
            if (regulation.isEnded) {
                return;
            }
            for (int i = 0; i < flights.size(); i++) {
                Flight flight = flights.get(i);
                int time = flight.lineTime(regulation.sector);
                if (regulation.holdsAt(time) && flight.isFixed()) {
                    fixed.add(i, time);
                } else if (regulation.holdsAt(time) && flight.isListed()) {
                    listed.add(i, time);
                }
            }
        }

        /** Times rise along a line, so a slot that one passes over is none for those behind it. */
        private int serve(Line line, Regulation regulation) {
            int without = 0;
            int slot = 0;
            for (int place = 0; place < line.count; place++) {
                int time = line.timeAt(place);
                while (slot < slotCount && (regulation.slotEnd(slot) <= time || fixed.hasGiven(slot))) {
                    slot++;
                }
                if (slot < slotCount) {
                    line.give(place, slot, Math.max(time, regulation.slotBegin(slot)));
                    slot++;
                } else {
                    line.give(place, NONE, regulation.to);
                    without++;
                }
            }
            return without;
        }

        /** The penalty of a flight, found by going through the slots and not through the flights. */
        int penaltyBySlots(Regulation regulation, ArrayList<Flight> flights, int number) {
            lineUp(regulation, flights);
            int place = listed.placeOf(number);
            if (place == NONE) {
                return NONE;
            }
            int time = listed.timeAt(place);
            int nextFixed = 0;
            int nextListed = 0;
            for (int slot = 0; slot < slotCount; slot++) {
                int slotEnd = regulation.slotEnd(slot);
                if (fixed.canTake(nextFixed, slotEnd)) {
                    nextFixed++;
                } else if (listed.canTake(nextListed, slotEnd)) {
                    if (nextListed == place) {
                        return Math.max(0, regulation.slotBegin(slot) - time);
                    }
                    nextListed++;
                }
            }
            return regulation.to - time;
        }
    }
}
