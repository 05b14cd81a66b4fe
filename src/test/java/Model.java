import java.util.ArrayList;
import java.util.HashMap;
import java.util.LinkedHashMap;
import java.util.List;
import java.util.Map;
import java.util.TreeMap;

/** A second bureau, written from the document's sentences without regard to speed or room, to compare answers with. */
final class Model {
    private static final class Craft {
        int company;
        int planned;
        String how = "WAITING";
        boolean exempt;
        Integer slotTime;
        Integer ruling;
        int went;
        int latest;
        final Map<Integer, int[]> entries = new LinkedHashMap<>();

        int departure() {
            if (how.equals("GONE")) {
                return went;
            }
            return slotTime != null ? slotTime : planned;
        }

        Integer over(int sector) {
            int[] entry = entries.get(sector);
            return entry == null ? null : Integer.valueOf(departure() + entry[0]);
        }

        Integer plannedOver(int sector) {
            int[] entry = entries.get(sector);
            return entry == null ? null : Integer.valueOf(planned + entry[0]);
        }
    }

    private static final class Rule {
        int sector;
        int from;
        int to;
        int rate;
        boolean ended;
        int charged;

        List<int[]> slots() {
            List<Integer> begins = new ArrayList<>();
            for (int k = 0; rate > 0 && from + 60 * k / rate < to; k++) {
                begins.add(from + 60 * k / rate);
            }
            List<int[]> slots = new ArrayList<>();
            for (int k = 0; k < begins.size(); k++) {
                slots.add(new int[] {begins.get(k), k + 1 < begins.size() ? begins.get(k + 1) : to});
            }
            return slots;
        }

        boolean within(Integer time) {
            return time != null && time >= from && time < to;
        }
    }

    /** What dealing one regulation gives. */
    private static final class Dealt {
        int slots;
        int free;
        int fixed;
        int listed;
        int without;
        final Map<Integer, Integer> penalties = new HashMap<>();
    }

    private final List<Craft> crafts = new ArrayList<>();
    private final List<Rule> rules = new ArrayList<>();
    private final int[][] ledgers = new int[4][3];

    private Craft craft(int flight) {
        if (flight < 0 || flight >= crafts.size()) {
            throw new IndexOutOfBoundsException();
        }
        return crafts.get(flight);
    }

    private Rule rule(int regulation) {
        if (regulation < 0 || regulation >= rules.size()) {
            throw new IndexOutOfBoundsException();
        }
        return rules.get(regulation);
    }

    private static void such(int number, int count) {
        if (number < 0 || number >= count) {
            throw new IndexOutOfBoundsException();
        }
    }

    private static void argument(boolean good) {
        if (!good) {
            throw new IllegalArgumentException();
        }
    }

    private static void state(boolean good) {
        if (!good) {
            throw new IllegalStateException();
        }
    }

    int flight(int company, int planned) {
        such(company, 4);
        argument(planned >= 0 && planned <= 1439);
        state(crafts.size() < 24);
        Craft craft = new Craft();
        craft.company = company;
        craft.planned = planned;
        crafts.add(craft);
        return crafts.indexOf(craft);
    }

    int entry(int flight, int sector, int behind, int stays) {
        Craft craft = craft(flight);
        such(sector, 6);
        argument(behind >= 0 && behind <= 600 && stays >= 1 && stays <= 120);
        state(craft.how.equals("WAITING") && craft.slotTime == null && craft.entries.size() < 5);
        for (Map.Entry<Integer, int[]> earlier : craft.entries.entrySet()) {
            state(earlier.getKey() != sector && earlier.getValue()[0] < behind);
        }
        craft.entries.put(sector, new int[] {behind, stays});
        return craft.entries.size();
    }

    int exempt(int flight, boolean is) {
        Craft craft = craft(flight);
        state(craft.how.equals("WAITING"));
        boolean was = craft.exempt;
        craft.exempt = is;
        if (is) {
            craft.slotTime = null;
            craft.ruling = null;
        }
        return was ? 1 : 0;
    }

    int flightIs(int flight, int what) {
        Craft craft = craft(flight);
        argument(what >= 0 && what <= 7);
        int[] all = {
            craft.how.equals("WAITING") ? 0 : craft.how.equals("GONE") ? 1 : 2,
            craft.planned,
            craft.slotTime == null ? -1 : craft.slotTime,
            craft.ruling == null ? -1 : craft.ruling,
            craft.departure(),
            craft.entries.size(),
            craft.latest,
            craft.exempt ? 1 : 0,
        };
        return all[what];
    }

    int over(int flight, int sector) {
        Craft craft = craft(flight);
        such(sector, 6);
        Integer over = craft.over(sector);
        return over == null ? -1 : over;
    }

    int load(int sector, int from, int width) {
        such(sector, 6);
        argument(from >= 0 && from <= 2999 && width >= 1 && width <= 240);
        return (int) crafts.stream().filter(c -> !c.how.equals("CANCELLED")).map(c -> c.over(sector))
            .filter(t -> t != null && t >= from && t < from + width).count();
    }

    int inside(int sector, int minute) {
        such(sector, 6);
        argument(minute >= 0 && minute <= 2999);
        int inside = 0;
        for (Craft craft : crafts) {
            Integer over = craft.over(sector);
            if (over != null && !craft.how.equals("CANCELLED") && over <= minute
                && minute - over < craft.entries.get(sector)[1]) {
                inside++;
            }
        }
        return inside;
    }

    int peak(int sector, int width) {
        such(sector, 6);
        argument(width >= 1 && width <= 240);
        int peak = 0;
        for (int from = 0; from <= 2999; from++) {
            peak = Math.max(peak, load(sector, from, width));
        }
        return peak;
    }

    int regulation(int sector, int from, int to, int rate) {
        such(sector, 6);
        argument(from >= 0 && from <= 1439 && to > from && to <= 1440 && rate >= 0 && rate <= 60);
        state(rules.size() < 6);
        rules.add(newRule(sector, from, to, rate));
        return rules.size() - 1;
    }

    private static Rule newRule(int sector, int from, int to, int rate) {
        Rule rule = new Rule();
        rule.sector = sector;
        rule.from = from;
        rule.to = to;
        rule.rate = rate;
        return rule;
    }

    int rate(int regulation, int rate) {
        Rule rule = rule(regulation);
        argument(rate >= 0 && rate <= 60);
        state(!rule.ended);
        int before = rule.rate;
        rule.rate = rate;
        return before;
    }

    int end(int regulation) {
        Rule rule = rule(regulation);
        state(!rule.ended);
        rule.ended = true;
        return 0;
    }

    private Dealt dealt(Rule rule) {
        Dealt dealt = new Dealt();
        if (rule.ended) {
            return dealt;
        }
        TreeMap<Integer, Integer> fixed = new TreeMap<>();
        TreeMap<Integer, Integer> listed = new TreeMap<>();
        for (int i = 0; i < crafts.size(); i++) {
            Craft craft = crafts.get(i);
            boolean waiting = craft.how.equals("WAITING");
            Integer over = craft.over(rule.sector);
            Integer plannedOver = craft.plannedOver(rule.sector);
            if (craft.how.equals("GONE") && rule.within(over)) {
                fixed.put(over * 100 + i, over);
            } else if (waiting && craft.exempt && rule.within(plannedOver)) {
                fixed.put(plannedOver * 100 + i, plannedOver);
            } else if (waiting && !craft.exempt && rule.within(plannedOver)) {
                listed.put(plannedOver * 100 + i, plannedOver);
            }
        }
        List<int[]> free = rule.slots();
        dealt.slots = free.size();
        dealt.fixed = fixed.size();
        dealt.listed = listed.size();
        for (int time : fixed.values()) {
            take(free, time);
        }
        for (Map.Entry<Integer, Integer> one : listed.entrySet()) {
            int time = one.getValue();
            int[] slot = take(free, time);
            dealt.without += slot == null ? 1 : 0;
            int target = slot == null ? rule.to : Math.max(time, slot[0]);
            dealt.penalties.put(one.getKey() % 100, target - time);
        }
        dealt.free = free.size();
        return dealt;
    }

    private static int[] take(List<int[]> free, int time) {
        for (int[] slot : free) {
            if (slot[1] > time) {
                free.remove(slot);
                return slot;
            }
        }
        return null;
    }

    int regulationIs(int regulation, int what) {
        Rule rule = rule(regulation);
        argument(what >= 0 && what <= 6);
        Dealt dealt = dealt(rule);
        int[] all = {dealt.slots, dealt.free, dealt.fixed, dealt.listed, dealt.without, rule.rate, rule.charged};
        return all[what];
    }

    int slot(int regulation, int slot) {
        Rule rule = rule(regulation);
        if (slot < 0) {
            throw new IndexOutOfBoundsException();
        }
        List<int[]> slots = rule.slots();
        return rule.ended || slot >= slots.size() ? -1 : slots.get(slot)[0];
    }

    int penalty(int flight, int regulation) {
        craft(flight);
        return dealt(rule(regulation)).penalties.getOrDefault(flight, -1);
    }

    int due(int flight) {
        craft(flight);
        return rules.stream().mapToInt(r -> dealt(r).penalties.getOrDefault(flight, 0)).max().orElse(0);
    }

    private Integer regulationThatIsDue(int flight) {
        for (int i = 0; i < rules.size(); i++) {
            if (due(flight) > 0 && penalty(flight, i) == due(flight)) {
                return i;
            }
        }
        return null;
    }

    int allDue() {
        int all = 0;
        for (int i = 0; i < crafts.size(); i++) {
            all += due(i);
        }
        return all;
    }

    int would(int sector, int from, int to, int rate) {
        such(sector, 6);
        argument(from >= 0 && from <= 1439 && to > from && to <= 1440 && rate >= 0 && rate <= 60);
        rules.add(newRule(sector, from, to, rate));
        int all = allDue();
        rules.remove(rules.size() - 1);
        return all;
    }

    int deal(boolean mayWorsen) {
        int minutes = 0;
        for (int i = 0; i < crafts.size(); i++) {
            Craft craft = crafts.get(i);
            if (!craft.how.equals("WAITING") || craft.exempt) {
                continue;
            }
            int due = due(i);
            if (due == 0) {
                craft.slotTime = null;
                craft.ruling = null;
            } else if (mayWorsen || craft.slotTime == null || !(craft.planned + due > craft.slotTime)) {
                craft.slotTime = craft.planned + due;
                craft.ruling = regulationThatIsDue(i);
            }
            minutes += craft.slotTime == null ? 0 : craft.slotTime - craft.planned;
        }
        return minutes;
    }

    int swap(int flight, int other) {
        Craft one = craft(flight);
        Craft two = craft(other);
        argument(flight != other);
        state(one.how.equals("WAITING") && two.how.equals("WAITING") && one.company == two.company);
        state(one.slotTime != null && two.slotTime != null && one.ruling.equals(two.ruling));
        int sector = rules.get(one.ruling).sector;
        int difference = two.over(sector) - one.over(sector);
        state(one.slotTime + difference >= one.planned && two.slotTime - difference >= two.planned);
        one.slotTime += difference;
        two.slotTime -= difference;
        return 0;
    }

    int message(int flight, int number, int kind, int minute) {
        Craft craft = craft(flight);
        argument(number >= 1 && number <= 99 && kind >= 0 && kind <= 2);
        argument(kind == 1 ? minute == 0 : minute >= 0 && minute <= 1439);
        if (!craft.how.equals("WAITING") || number <= craft.latest) {
            return 0;
        }
        craft.latest = number;
        if (kind == 0) {
            craft.planned = minute;
            if (craft.slotTime != null && craft.slotTime < minute) {
                craft.slotTime = null;
                craft.ruling = null;
            }
        } else if (kind == 1) {
            craft.how = "CANCELLED";
        } else {
            go(craft, minute);
        }
        return 1;
    }

    private void go(Craft craft, int minute) {
        craft.how = "GONE";
        craft.went = minute;
        int[] ledger = ledgers[craft.company];
        ledger[2]++;
        if (craft.slotTime != null) {
            int charge = craft.slotTime - craft.planned;
            rules.get(craft.ruling).charged += charge;
            ledger[0] += charge;
            ledger[1] += craft.slotTime - minute > 5 || minute - craft.slotTime > 10 ? 1 : 0;
        }
    }

    int companyIs(int company, int what) {
        such(company, 4);
        argument(what >= 0 && what <= 2);
        return ledgers[company][what];
    }
}
