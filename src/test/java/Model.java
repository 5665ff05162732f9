import java.util.ArrayDeque;
import java.util.ArrayList;
import java.util.List;
import java.util.TreeSet;
import java.util.function.IntPredicate;
import java.util.regex.Matcher;
import java.util.regex.Pattern;

/** The document once more, written apart from the program and with the whole Java library, for ModelTest. */
final class Model {
    enum Condition { OFF, WAITING, RISING, GOOD, FALLING, FAILED }

    private static final int[][] RANGES =
            {{100, 5000}, {1, 1000}, {1, 1000}, {50, 100}, {0, 50}, {1, 200}, {1, 4}};
    private static final String THOUSAND = "(?:1000|[1-9][0-9]{0,2})";
    private static final String RAIL = "(?:5000|[1-4][0-9]{3}|[1-9][0-9]{2})/" + THOUSAND + "/" + THOUSAND
            + "(?:<(?:01?2?3?4?5?6?|12?3?4?5?6?|23?4?5?6?|34?5?6?|45?6?|56?|6))?";
    private static final Pattern TEXT = Pattern.compile(RAIL + "(?:;" + RAIL + ")*");

    static final class Rail {
        int[] properties;
        TreeSet<Integer> needs = new TreeSet<>();
        boolean wanted;
        Condition condition = Condition.OFF;
        int voltage;
        int stuck;
        int shortTicks;
        int time;
        int failures;
        Integer blame;
        int[] accounts = new int[4];

        Rail(int target, int rise, int fall) {
            properties = new int[] {target, rise, fall, 90, 2, 40, 2};
        }

        Rail copy() {
            Rail copy = new Rail(0, 0, 0);
            copy.properties = properties.clone();
            copy.needs = new TreeSet<>(needs);
            copy.wanted = wanted;
            copy.condition = condition;
            copy.voltage = voltage;
            copy.stuck = stuck;
            copy.shortTicks = shortTicks;
            copy.time = time;
            copy.failures = failures;
            copy.blame = blame;
            copy.accounts = accounts.clone();
            return copy;
        }

        boolean flag() {
            if (stuck == 1) {
                return false;
            }
            return stuck == 2 || voltage * 100 >= properties[0] * properties[3];
        }
    }

    static final class Whole {
        List<Rail> rails = new ArrayList<>();
        int number;
        int residue = 100;
        List<int[]> log = new ArrayList<>();

        Whole copy() {
            Whole copy = new Whole();
            for (Rail rail : rails) {
                copy.rails.add(rail.copy());
            }
            copy.number = number;
            copy.residue = residue;
            copy.log.addAll(log);
            return copy;
        }

        boolean discharged(Rail rail) {
            return rail.voltage <= residue;
        }

        int mask(IntPredicate of) {
            int mask = 0;
            for (int r = 0; r < rails.size(); r++) {
                mask += of.test(r) ? 1 << r : 0;
            }
            return mask;
        }

        boolean follows(int r, int on) {
            for (int need : rails.get(r).needs) {
                if (need == on || follows(need, on)) {
                    return true;
                }
            }
            return false;
        }

        void change(int r, Condition to) {
            Rail rail = rails.get(r);
            rail.condition = to;
            log.add(new int[] {number, r, to.ordinal(), rail.blame == null ? -1 : rail.blame});
            if (log.size() > 16) {
                log.remove(0);
            }
        }

        /** Returns the mask of the rails that changed their states. */
        int tick() {
            for (Rail rail : rails) {
                boolean up = (rail.condition == Condition.RISING || rail.condition == Condition.GOOD)
                        && rail.shortTicks == 0;
                if (!up) {
                    rail.voltage -= Math.min(rail.properties[2], rail.voltage);
                } else if (rail.voltage < rail.properties[0]) {
                    rail.voltage += Math.min(rail.properties[1], rail.properties[0] - rail.voltage);
                } else {
                    rail.voltage -= Math.min(rail.properties[1], rail.voltage - rail.properties[0]);
                }
            }
            List<Condition> old = new ArrayList<>();
            rails.forEach(rail -> old.add(rail.condition));
            for (int r = 0; r < rails.size(); r++) {
                look(r, old);
            }
            for (Rail rail : rails) {
                rail.shortTicks = Math.max(0, rail.shortTicks - 1);
                rail.accounts[3] += rail.condition == Condition.GOOD ? 1 : 0;
            }
            number++;
            return mask(r -> rails.get(r).condition != old.get(r));
        }

        void look(int r, List<Condition> old) {
            Rail rail = rails.get(r);
            Integer bad = null;
            for (int need : rail.needs.descendingSet()) {
                if (old.get(need) != Condition.GOOD || !rails.get(need).flag()) {
                    bad = need;
                }
            }
            if (rail.condition == Condition.OFF) {
                if (rail.wanted) {
                    change(r, Condition.WAITING);
                    rail.time = 0;
                    rail.failures = 0;
                }
            } else if (rail.condition == Condition.WAITING) {
                if (!rail.wanted) {
                    change(r, Condition.OFF);
                } else if (discharged(rail) && bad == null) {
                    rail.time++;
                    if (rail.time > rail.properties[4]) {
                        rail.accounts[0]++;
                        rail.time = 0;
                        change(r, Condition.RISING);
                    }
                } else {
                    rail.time = 0;
                }
            } else if (rail.condition == Condition.RISING) {
                if (!rail.wanted) {
                    rail.blame = null;
                    change(r, Condition.FALLING);
                } else if (bad != null) {
                    rail.blame = bad;
                    change(r, Condition.FALLING);
                } else if (rail.flag()) {
                    rail.blame = null;
                    rail.accounts[1]++;
                    change(r, Condition.GOOD);
                } else if (++rail.time >= rail.properties[5]) {
                    fail(r);
                }
            } else if (rail.condition == Condition.GOOD) {
                if (bad != null) {
                    rail.blame = bad;
                    change(r, Condition.FALLING);
                } else if (!rail.flag()) {
                    fail(r);
                } else if (!rail.wanted && mask(u -> rails.get(u).needs.contains(r)
                        && !(discharged(rails.get(u))
                        && (old.get(u) == Condition.OFF || old.get(u) == Condition.FAILED))) == 0) {
                    rail.blame = null;
                    change(r, Condition.FALLING);
                }
            } else if (rail.condition == Condition.FALLING) {
                if (discharged(rail)) {
                    if (rail.wanted) {
                        rail.time = 0;
                    }
                    change(r, rail.wanted ? Condition.WAITING : Condition.OFF);
                }
            } else if (!rail.wanted && discharged(rail)) {
                change(r, Condition.OFF);
            }
        }

        void fail(int r) {
            Rail rail = rails.get(r);
            rail.failures++;
            rail.accounts[2]++;
            rail.blame = r;
            change(r, rail.failures >= rail.properties[6] ? Condition.FAILED : Condition.FALLING);
        }
    }

    private Whole whole = new Whole();
    private final ArrayDeque<Whole> saved = new ArrayDeque<>();
    private String buffer = "";

    private void save() {
        saved.addLast(whole.copy());
        if (saved.size() > 6) {
            saved.removeFirst();
        }
    }

    private void needRail(int r) {
        if (r < 0 || r >= whole.rails.size()) {
            throw new IndexOutOfBoundsException();
        }
    }

    private static void need(boolean holds) {
        if (!holds) {
            throw new IllegalArgumentException();
        }
    }

    private static void needState(boolean holds) {
        if (!holds) {
            throw new IllegalStateException();
        }
    }

    private static boolean in(int value, int least, int most) {
        return least <= value && value <= most;
    }

    private static boolean isMask(int mask, int rails) {
        return in(mask, 0, (1 << rails) - 1);
    }

    private static TreeSet<Integer> bits(int mask) {
        TreeSet<Integer> bits = new TreeSet<>();
        for (int r = 0; r < 8; r++) {
            if ((mask >> r & 1) == 1) {
                bits.add(r);
            }
        }
        return bits;
    }

    private static int maskOf(Iterable<Integer> bits) {
        int mask = 0;
        for (int bit : bits) {
            mask += 1 << bit;
        }
        return mask;
    }

    int addRail(int target, int rise, int fall, int needs) {
        need(in(target, 100, 5000) && in(rise, 1, 1000) && in(fall, 1, 1000));
        need(isMask(needs, whole.rails.size()));
        needState(whole.rails.size() < 8);
        save();
        Rail rail = new Rail(target, rise, fall);
        rail.needs = bits(needs);
        whole.rails.add(rail);
        return whole.rails.size() - 1;
    }

    int set(int r, int property, int value) {
        needRail(r);
        if (!in(property, 0, 6)) {
            throw new IndexOutOfBoundsException();
        }
        need(in(value, RANGES[property][0], RANGES[property][1]));
        save();
        int old = whole.rails.get(r).properties[property];
        whole.rails.get(r).properties[property] = value;
        return old;
    }

    int setNeeds(int r, int needs) {
        needRail(r);
        need(isMask(needs, r));
        Rail rail = whole.rails.get(r);
        needState(rail.condition == Condition.OFF || rail.condition == Condition.FAILED);
        save();
        int old = maskOf(rail.needs);
        rail.needs = bits(needs);
        return old;
    }

    int setResidue(int residue) {
        need(in(residue, 0, 500));
        save();
        int old = whole.residue;
        whole.residue = residue;
        return old;
    }

    private int wanted() {
        return whole.mask(r -> whole.rails.get(r).wanted);
    }

    private void want(int r) {
        whole.rails.get(r).wanted = true;
        whole.rails.get(r).needs.forEach(this::want);
    }

    int on(int rails) {
        need(isMask(rails, whole.rails.size()));
        save();
        bits(rails).forEach(this::want);
        return wanted();
    }

    int off(int rails) {
        need(isMask(rails, whole.rails.size()));
        save();
        for (int r : bits(rails)) {
            for (int other = 0; other < whole.rails.size(); other++) {
                if (other == r || whole.follows(other, r)) {
                    whole.rails.get(other).wanted = false;
                }
            }
        }
        return wanted();
    }

    int restart(int r) {
        needRail(r);
        needState(whole.rails.get(r).wanted);
        save();
        int count = 0;
        for (int other = 0; other < whole.rails.size(); other++) {
            Rail rail = whole.rails.get(other);
            boolean meant = other == r || whole.follows(other, r);
            if (meant && (rail.condition == Condition.RISING || rail.condition == Condition.GOOD
                    || rail.condition == Condition.FAILED && rail.wanted)) {
                rail.blame = r;
                rail.failures = 0;
                whole.change(other, Condition.FALLING);
                count++;
            }
        }
        return count;
    }

    int shortCircuit(int r, int ticks) {
        needRail(r);
        need(in(ticks, 0, 500));
        save();
        int old = whole.rails.get(r).shortTicks;
        whole.rails.get(r).shortTicks = ticks;
        return old;
    }

    int stick(int r, int how) {
        needRail(r);
        need(in(how, 0, 2));
        save();
        int old = whole.rails.get(r).stuck;
        whole.rails.get(r).stuck = how;
        return old;
    }

    int tick(int ticks) {
        need(in(ticks, 1, 200));
        needState(whole.number + ticks <= 20000);
        save();
        int changes = 0;
        for (int i = 0; i < ticks; i++) {
            changes += Integer.bitCount(whole.tick());
        }
        return changes;
    }

    int append(int code) {
        need(in(code, 33, 126));
        needState(buffer.length() < 60);
        buffer += (char) code;
        return buffer.length();
    }

    int clearBuffer() {
        int length = buffer.length();
        buffer = "";
        return length;
    }

    int firstError() {
        for (int end = 1; end <= buffer.length(); end++) {
            Matcher matcher = TEXT.matcher(buffer.substring(0, end));
            // the end was looked behind: a longer one could be a text
            if (!matcher.matches() && !matcher.hitEnd()) {
                return end - 1;
            }
        }
        return buffer.length();
    }

    int load() {
        need(TEXT.matcher(buffer).matches());
        Whole next = whole.copy();
        for (String text : buffer.split(";")) {
            String[] halves = text.split("<");
            String[] numbers = halves[0].split("/");
            Rail rail = new Rail(Integer.parseInt(numbers[0]), Integer.parseInt(numbers[1]),
                    Integer.parseInt(numbers[2]));
            if (halves.length > 1) {
                halves[1].chars().forEach(c -> rail.needs.add(c - '0'));
            }
            needState(rail.needs.isEmpty() || rail.needs.last() < next.rails.size());
            next.rails.add(rail);
        }
        needState(next.rails.size() <= 8);
        save();
        whole = next;
        buffer = "";
        return whole.rails.size();
    }

    int undo() {
        needState(!saved.isEmpty());
        whole = saved.removeLast();
        return saved.size();
    }

    int rail(int r, int what) {
        needRail(r);
        need(in(what, 0, 18));
        Rail rail = whole.rails.get(r);
        int blame = rail.blame == null ? -1 : rail.blame;
        if (what < 7) {
            return rail.properties[what];
        }
        int[] rest = {maskOf(rail.needs), whole.mask(f -> whole.follows(f, r)), rail.wanted ? 1 : 0,
            rail.condition.ordinal(), rail.voltage, rail.flag() ? 1 : 0, rail.stuck, rail.shortTicks,
            rail.time, rail.failures, blame, firstBlame(r)};
        return rest[what - 7];
    }

    private int firstBlame(int r) {
        Integer blame = whole.rails.get(r).blame;
        if (blame == null) {
            return -1;
        }
        boolean ends = blame == r || whole.rails.get(blame).blame == null;
        return ends ? blame : firstBlame(blame);
    }

    int account(int r, int what) {
        needRail(r);
        need(in(what, 0, 3));
        return whole.rails.get(r).accounts[what];
    }

    int entry(int back, int what) {
        need(in(back, 0, 15) && in(what, 0, 3));
        int at = whole.log.size() - 1 - back;
        return at < 0 ? -1 : whole.log.get(at)[what];
    }

    int forget(int r) {
        needRail(r);
        save();
        int before = whole.log.size();
        whole.log.removeIf(entry -> entry[1] == r);
        return before - whole.log.size();
    }

    int count(int what) {
        need(in(what, 0, 9));
        List<Rail> rails = whole.rails;
        switch (what) {
            case 0: return rails.size();
            case 1: return whole.number;
            case 2: return whole.residue;
            case 3: return wanted();
            case 4: return whole.mask(r -> rails.get(r).condition == Condition.GOOD);
            case 5: return whole.mask(r -> rails.get(r).condition == Condition.FAILED);
            case 6: return whole.log.size();
            case 7: return rails.stream().mapToInt(rail -> rail.voltage).sum();
            case 8: return saved.size();
            default:
        }
        Whole next = whole.copy();
        next.tick();
        return whole.mask(r -> next.rails.get(r).voltage != rails.get(r).voltage
                || next.rails.get(r).condition != rails.get(r).condition
                || next.rails.get(r).time != rails.get(r).time) == 0 ? 1 : 0;
    }

    int allGoodIn() {
        Whole next = whole.copy();
        int good = 0;
        while (next.mask(r -> next.rails.get(r).wanted && next.rails.get(r).condition != Condition.GOOD) != 0) {
            next.tick();
            if (++good > 1000) {
                return -1;
            }
        }
        return good;
    }

    int allOffIn() {
        Whole next = whole.copy();
        next.rails.forEach(rail -> rail.wanted = false);
        int off = 0;
        while (next.mask(r -> next.rails.get(r).condition != Condition.OFF
                || !next.discharged(next.rails.get(r))) != 0) {
            next.tick();
            if (++off > 1000) {
                return -1;
            }
        }
        return off;
    }

    int ifShort(int r, int ticks, int what) {
        needRail(r);
        need(in(ticks, 1, 500) && in(what, 0, 2));
        Whole next = whole.copy();
        next.rails.get(r).shortTicks = ticks;
        int[] masks = new int[3];
        for (int i = 0; i < 100; i++) {
            int changed = next.tick();
            masks[0] |= changed & next.mask(s -> next.rails.get(s).condition == Condition.FALLING
                    || next.rails.get(s).condition == Condition.FAILED);
        }
        masks[1] = next.mask(s -> next.rails.get(s).condition == Condition.GOOD);
        masks[2] = next.mask(s -> next.rails.get(s).condition == Condition.FAILED);
        return masks[what];
    }

    /** By trying each patience. */
    int leastPatience(int r) {
        needRail(r);
        int[] properties = whole.rails.get(r).properties;
        for (int patience = 1; patience <= 200; patience++) {
            Whole alone = new Whole();
            Rail rail = new Rail(properties[0], properties[1], properties[2]);
            rail.properties[3] = properties[3];
            rail.properties[5] = patience;
            rail.wanted = true;
            rail.condition = Condition.RISING;
            alone.rails.add(rail);
            while (rail.condition == Condition.RISING) {
                alone.tick();
            }
            if (rail.condition == Condition.GOOD) {
                return patience;
            }
        }
        return -1;
    }

    double goodShare() {
        int divisor = whole.number * whole.rails.size();
        double sum = whole.rails.stream().mapToInt(rail -> rail.accounts[3]).sum();
        return divisor == 0 ? 0.0 : sum / divisor;
    }

    long digest() {
        List<Long> values = new ArrayList<>();
        for (int what = 0; what < 10; what++) {
            values.add((long) count(what));
        }
        for (int r = 0; r < whole.rails.size(); r++) {
            for (int what = 0; what < 19; what++) {
                values.add((long) rail(r, what));
            }
            for (int what = 0; what < 4; what++) {
                values.add((long) account(r, what));
            }
            values.add((long) leastPatience(r));
        }
        for (int back = 0; back < whole.log.size(); back++) {
            for (int what = 0; what < 4; what++) {
                values.add((long) entry(back, what));
            }
        }
        values.add((long) allGoodIn());
        values.add((long) allOffIn());
        values.add(Double.doubleToLongBits(goodShare()));
        values.add((long) buffer.length());
        buffer.chars().forEach(c -> values.add((long) c));
        long hash = 2179;
        for (long value : values) {
            hash = 31 * hash + value;
        }
        return hash;
    }
}
