/** The boundary cases of what a rail is, of a new object, and of promises 2 to 5, sentence by sentence. */
public final class RailBoundsTest extends Check {
    private static final int[] WILD = {Integer.MIN_VALUE, Integer.MIN_VALUE + 1, -1000, Integer.MAX_VALUE - 1,
        Integer.MAX_VALUE, 1 << 16, 1 << 30};

    public static void main(String[] args) {
        newObject();
        manyCalls();
        eightRails();
        properties();
        whatIsAtFirst();
        needsAreEarlier();
        followers();
        discharged();
        residueOfAllRails();
        flag();
        stuckFlag();
        addRailRanges();
        addRailNeeds();
        addRailFull();
        addRailBehindOthers();
        setWithoutRail();
        setRange();
        setPrevious();
        setNeedsRange();
        setNeedsStates();
        setNeedsPrevious();
        setResidueRange();
        end();
    }

    private static void newObject() {
        sentence("Creates a sequencer without rails, with an empty log and an empty buffer.");
        RailSequence x = new RailSequence();
        int[] counts = {0, 0, 100, 0, 0, 0, 0, 0, 0, 1};
        for (int what = 0; what < 10; what++) {
            due("count(" + what + ")", counts[what], x.count(what));
        }
        for (int back = 0; back < 16; back++) {
            dueEntry(x, back, NONE, NONE, NONE, NONE);
        }
        due("firstError", 0, x.firstError());
        refuses("undo", STATE, x, x::undo);
        refuses("load", ARGUMENT, x, x::load);
        refuses("rail", INDEX, x, () -> x.rail(0, 0));
        refuses("account", INDEX, x, () -> x.account(0, 0));
        refuses("set", INDEX, x, () -> x.set(0, 0, 100));
        refuses("setNeeds", INDEX, x, () -> x.setNeeds(0, 0));
        refuses("restart", INDEX, x, () -> x.restart(0));
        refuses("shortCircuit", INDEX, x, () -> x.shortCircuit(0, 1));
        refuses("stick", INDEX, x, () -> x.stick(0, 0));
        refuses("forget", INDEX, x, () -> x.forget(0));
        refuses("ifShort", INDEX, x, () -> x.ifShort(0, 1, 0));
        refuses("leastPatience", INDEX, x, () -> x.leastPatience(0));
        refuses("on", ARGUMENT, x, () -> x.on(1));
        refuses("off", ARGUMENT, x, () -> x.off(1));
        due("allGoodIn", 0, x.allGoodIn());
        due("allOffIn", 0, x.allOffIn());
        due("goodShare", 0L, Double.doubleToLongBits(x.goodShare()));
        due("changes of a tick", 0, x.tick(1));
        due("clearBuffer", 0, x.clearBuffer());
        sentence("The constants: `NONE = -1`: There is nothing to return.");
        due("NONE", -1, RailSequence.NONE);
        due("entry", -1, x.entry(0, 0));
        due("blame", -1, oneRail().rail(0, 17));
    }

    private static void manyCalls() {
        sentence("An object is used for at most 512 calls after it has been made");
        RailSequence x = oneRail();
        x.on(1);
        for (int call = 3; call <= 511; call++) {
            due("changes with call " + call, call == 3 || call == 6 || call == 9 ? 1 : 0, x.tick(1));
        }
        due("number of the tick with call 512", 509, x.count(1));
    }

    private static void eightRails() {
        sentence("There are at most 8 rails, numbered from 0 in the order in which they came.");
        RailSequence x = new RailSequence();
        for (int r = 0; r < 7; r++) {
            due("number", r, x.addRail(100 + r, 1, 1, 0));
        }
        type(x, "107/1/1");
        due("rails then", 8, x.load());
        for (int r = 0; r < 8; r++) {
            due("target of " + r, 100 + r, x.rail(r, 0));
        }
        refuses("the ninth", STATE, x, () -> x.addRail(100, 1, 1, 0));
        type(x, "100/1/1");
        refuses("the ninth of a text", STATE, x, x::load);
        due("rails", 8, x.count(0));
    }

    private static void properties() {
        property("0: the target, 100 to 5000 millivolts;", 0, 100, 5000, 1000);
        property("1: the rise, 1 to 1000 millivolts in a tick;", 1, 1, 1000, 400);
        property("2: the fall, 1 to 1000 millivolts in a tick;", 2, 1, 1000, 300);
        property("3: the threshold, 50 to 100 percent, at first 90;", 3, 50, 100, 90);
        property("4: the delay, 0 to 50 ticks, at first 2;", 4, 0, 50, 2);
        property("5: the patience, 1 to 200 ticks, at first 40;", 5, 1, 200, 40);
        property("6: the tries, 1 to 4, at first 2.", 6, 1, 4, 2);
    }

    private static void property(String words, int property, int least, int most, int atFirst) {
        sentence(words);
        RailSequence x = oneRail();
        due("at first", atFirst, x.rail(0, property));
        refuses("below the least", ARGUMENT, x, () -> x.set(0, property, least - 1));
        refuses("above the most", ARGUMENT, x, () -> x.set(0, property, most + 1));
        for (int wild : WILD) {
            refuses("" + wild, ARGUMENT, x, () -> x.set(0, property, wild));
        }
        due("before", atFirst, x.set(0, property, least));
        due("the least", least, x.rail(0, property));
        due("the least before", least, x.set(0, property, most));
        due("the most", most, x.rail(0, property));
        for (int other = 0; other < 7; other++) {
            if (other != property) {
                due("another property, " + other, oneRail().rail(0, other), x.rail(0, other));
            }
        }
    }

    private static void whatIsAtFirst() {
        sentence("A rail has a voltage, at first 0.");
        due("voltage", 0, freshRail().rail(1, 11));
        sentence("A rail is wanted or not, at first it is not.");
        due("wanted", 0, freshRail().rail(1, 9));
        due("mask of wanted rails", 1, freshRail().count(3));
        sentence("It is in one of these states: 0 off (at first)");
        due("state", 0, freshRail().rail(1, 10));
        sentence("a rail, or NONE; at first 0, 0 and NONE.");
        due("time", 0, freshRail().rail(1, 15));
        due("failures", 0, freshRail().rail(1, 16));
        due("blame", NONE, freshRail().rail(1, 17));
        due("first blame", NONE, freshRail().rail(1, 18));
        sentence("For each rail are counted: how often it became rising, how often it became good, "
                + "its failures in all, and the ticks behind which it is in the state good.");
        dueAccounts(freshRail(), 1, 0, 0, 0, 0);
        sentence("A rail can be shorted for a number of ticks.");
        due("shorted", 0, freshRail().rail(1, 14));
        sentence("but the flag can be stuck at false or at true.");
        due("stuck", 0, freshRail().rail(1, 13));
    }

    /** Rail 1 is new, where one was before that was used and then undone. */
    private static RailSequence freshRail() {
        RailSequence x = quick(1000, 1000, 1);
        x.on(1);
        x.tick(10);
        x.addRail(1000, 1000, 1, 0);
        x.on(2);
        x.stick(1, 2);
        x.tick(20);
        x.stick(1, 1);
        x.shortCircuit(1, 500);
        for (int left = 5; left >= 0; left--) {
            due("states left", left, x.undo());
        }
        due("rails left", 1, x.count(0));
        x.addRail(2000, 1000, 1000, 0);
        return x;
    }

    private static void needsAreEarlier() {
        sentence("A rail needs some of the earlier rails (with lower numbers).");
        RailSequence x = new RailSequence();
        for (int r = 0; r < 8; r++) {
            int all = (1 << r) - 1;
            int itself = 1 << r;
            refuses(r + " needs itself", ARGUMENT, x, () -> x.addRail(100, 1, 1, itself));
            due("with all earlier ones", r, x.addRail(100, 1, 1, all));
            int rail = r;
            refuses(r + " changed to itself", ARGUMENT, x, () -> x.setNeeds(rail, itself));
            refuses(r + " changed to a later one", ARGUMENT, x, () -> x.setNeeds(rail, itself << 1));
            due("needs of " + r, all, x.rail(r, 7));
        }
    }

    private static void followers() {
        sentence("It is a user of those that it needs; users of users, and so on, are its followers.");
        RailSequence x = chain(8);
        for (int r = 0; r < 8; r++) {
            due("followers of " + r, 255 & -(2 << r), x.rail(r, 8));
        }
        RailSequence y = fourRails();
        int[] followers = {14, 8, 0, 0};
        for (int r = 0; r < 4; r++) {
            due("followers of " + r, followers[r], y.rail(r, 8));
        }
    }

    private static void discharged() {
        sentence("It is discharged if its voltage is at most the residue, 0 to 500 millivolts");
        for (int residue : new int[] {0, 1, 99, 100, 101, 499, 500}) {
            due("falling to the residue " + residue, OFF, fallenBy(1000 - residue, residue).rail(0, 10));
            if (residue > 0) {
                due("falling to less than " + residue, OFF, fallenBy(1001 - residue, residue).rail(0, 10));
            }
            due("falling to more than " + residue, FALLING, fallenBy(999 - residue, residue).rail(0, 10));
        }
        sentence("for all rails, at first 100.");
        due("at first", 100, new RailSequence().count(2));
        due("falling to 100", OFF, fallenBy(900, 100).rail(0, 10));
        RailSequence x = quick(1000, 1000, 900);
        x.on(1);
        x.tick(5);
        x.off(1);
        x.tick(2);
        dueRail(x, 0, OFF, 100, 0, 0, NONE);
        RailSequence y = quick(1000, 1000, 899);
        y.on(1);
        y.tick(5);
        y.off(1);
        y.tick(2);
        dueRail(y, 0, FALLING, 101, 0, 0, NONE);
    }

    /** A rail that was at 1000 and has fallen for one tick; by at most 1000, so from less if need be. */
    private static RailSequence fallenBy(int fall, int residue) {
        RailSequence x = quick(1000, 1000, Math.min(1000, fall));
        x.setResidue(residue);
        x.on(1);
        x.tick(5);
        x.off(1);
        x.tick(2);
        due("voltage", 1000 - Math.min(1000, fall), x.rail(0, 11));
        return x;
    }

    private static void residueOfAllRails() {
        sentence("Changes the residue.");
        RailSequence x = quick(1000, 1000, 600);
        x.addRail(1000, 1000, 600, 0);
        x.on(3);
        x.tick(10);
        x.setResidue(400);
        x.off(3);
        x.tick(2);
        dueStates(x, OFF, OFF);
        x.undo();
        x.undo();
        x.setResidue(399);
        x.off(3);
        x.tick(2);
        dueStates(x, FALLING, FALLING);
    }

    private static void flag() {
        sentence("A rail has a flag, which is true if voltage * 100 is at least target * threshold;");
        dueFlag(5000, 50, 2500, 1);
        dueFlag(5000, 50, 2499, 0);
        dueFlag(5000, 100, 5000, 1);
        dueFlag(5000, 100, 4999, 0);
        dueFlag(100, 100, 100, 1);
        dueFlag(100, 100, 99, 0);
        dueFlag(100, 50, 50, 1);
        dueFlag(100, 50, 49, 0);
        dueFlag(1000, 90, 900, 1);
        dueFlag(1000, 90, 899, 0);
        // no division that is truncated: 90 percent of 999 are 899.1
        dueFlag(999, 90, 900, 1);
        dueFlag(999, 90, 899, 0);
        dueFlag(101, 50, 51, 1);
        dueFlag(101, 50, 50, 0);
        due("at the voltage 0", 0, oneRail().rail(0, 12));
    }

    private static void dueFlag(int target, int threshold, int voltage, int flag) {
        RailSequence x = quick(Math.max(100, voltage), 1000, 1);
        x.set(0, 3, 50);
        x.on(1);
        x.tick(10);
        // down to the voltage, where it is below any target
        for (int i = x.rail(0, 11); i > voltage; i--) {
            x.shortCircuit(0, 1);
            x.tick(1);
        }
        due("voltage", voltage, x.rail(0, 11));
        x.set(0, 0, target);
        x.set(0, 3, threshold);
        due("flag at " + voltage + " of " + target + ", " + threshold, flag, x.rail(0, 12));
    }

    private static void stuckFlag() {
        sentence("`how`: 0: not stuck; 1: stuck at false; 2: stuck at true");
        RailSequence x = oneRail();
        x.stick(0, 2);
        due("stuck at true at the voltage 0", 1, x.rail(0, 12));
        x.stick(0, 1);
        due("stuck at false at the voltage 0", 0, x.rail(0, 12));
        x.stick(0, 0);
        due("not stuck at the voltage 0", 0, x.rail(0, 12));
        x.on(1);
        x.tick(20);
        due("not stuck at the target", 1, x.rail(0, 12));
        x.stick(0, 1);
        due("stuck at false at the target", 0, x.rail(0, 12));
        x.stick(0, 2);
        due("stuck at true at the target", 1, x.rail(0, 12));
        sentence("Throws `IllegalArgumentException` if how is not 0 to 2");
        refuses("3", ARGUMENT, x, () -> x.stick(0, 3));
        refuses("-1", ARGUMENT, x, () -> x.stick(0, -1));
        for (int wild : WILD) {
            refuses("" + wild, ARGUMENT, x, () -> x.stick(0, wild));
        }
    }

    private static void addRailRanges() {
        sentence("- `target`: 100 to 5000");
        addRailRange(0, 100, 5000);
        sentence("- `rise`: 1 to 1000");
        addRailRange(1, 1, 1000);
        sentence("- `fall`: 1 to 1000");
        addRailRange(2, 1, 1000);
    }

    private static void addRailRange(int part, int least, int most) {
        RailSequence x = new RailSequence();
        refuses("below the least", ARGUMENT, x, () -> addRailWith(x, part, least - 1));
        refuses("above the most", ARGUMENT, x, () -> addRailWith(x, part, most + 1));
        for (int wild : WILD) {
            refuses("" + wild, ARGUMENT, x, () -> addRailWith(x, part, wild));
        }
        due("the least's number", 0, addRailWith(x, part, least));
        due("the most's number", 1, addRailWith(x, part, most));
        due("the least", least, x.rail(0, part));
        due("the most", most, x.rail(1, part));
    }

    private static int addRailWith(RailSequence x, int part, int value) {
        return x.addRail(part == 0 ? value : 500, part == 1 ? value : 500, part == 2 ? value : 500, 0);
    }

    private static void addRailNeeds() {
        sentence("Throws `IllegalArgumentException` if target, rise or fall is out of range, "
                + "or needs has a bit of no rail that there is");
        RailSequence x = new RailSequence();
        for (int r = 0; r <= 8; r++) {
            for (int bit = r; bit < 32; bit++) {
                int needs = 1 << bit;
                refuses(r + " rails, needs " + needs, ARGUMENT, x, () -> x.addRail(100, 1, 1, needs));
            }
            refuses(r + " rails, needs all bits", ARGUMENT, x, () -> x.addRail(100, 1, 1, -1));
            if (r < 8) {
                x.addRail(100, 1, 1, 0);
            }
        }
        sentence("- `needs`: the rails that it needs, as a bit mask (bit n for rail n)");
        due("needs of none", 0, x.rail(7, 7));
        for (int bit = 0; bit < 7; bit++) {
            x.undo();
            x.addRail(100, 1, 1, 1 << bit);
            due("needs", 1 << bit, x.rail(7, 7));
            due("followers of " + bit, 128, x.rail(bit, 8));
        }
    }

    private static void addRailFull() {
        sentence("Throws `IllegalStateException` if there are 8 rails");
        RailSequence x = chain(7);
        due("with 7", 7, x.addRail(100, 1, 1, 127));
        refuses("with 8", STATE, x, () -> x.addRail(100, 1, 1, 0));
        refuses("with 8, needs all", STATE, x, () -> x.addRail(100, 1, 1, 255));
        refuses("with 8, wrong target", ARGUMENT, x, () -> x.addRail(99, 1, 1, 0));
        refuses("with 8, wrong needs", ARGUMENT, x, () -> x.addRail(100, 1, 1, 256));
        x.undo();
        due("with 7 again", 7, x.addRail(100, 1, 1, 0));
    }

    private static void addRailBehindOthers() {
        sentence("Adds a rail. Undoable.");
        RailSequence x = goodChain(3);
        x.stick(0, 1);
        x.shortCircuit(2, 5);
        x.tick(1);
        String[] before = {railText(x, 0), railText(x, 1), railText(x, 2)};
        for (int rails = 4; rails <= 8; rails++) {
            undoable("addRail", x, () -> x.addRail(100, 1, 1, 0));
            due("number", rails - 1, x.addRail(100, 1, 1, 0));
            due("rails", rails, x.count(0));
            for (int r = 0; r < 3; r++) {
                dueText("rail " + r, before[r], railText(x, r));
            }
        }
    }

    private static void setWithoutRail() {
        sentence("Throws `IndexOutOfBoundsException` if there is no such rail or property");
        RailSequence x = new RailSequence();
        for (int rails = 0; rails <= 8; rails++) {
            int none = rails;
            refuses("rail " + none, INDEX, x, () -> x.set(none, 0, 100));
            refuses("rail -1", INDEX, x, () -> x.set(-1, 0, 100));
            if (rails < 8) {
                x.addRail(100, 1, 1, 0);
                due("the last rail", 90, x.set(rails, 3, 91));
            }
        }
        refuses("property 7", INDEX, x, () -> x.set(0, 7, 1));
        refuses("property -1", INDEX, x, () -> x.set(0, -1, 1));
        for (int wild : WILD) {
            refuses("rail " + wild, INDEX, x, () -> x.set(wild, 0, 100));
            refuses("property " + wild, INDEX, x, () -> x.set(0, wild, 100));
        }
        refuses("no rail and a wrong value", INDEX, x, () -> x.set(8, 0, 99));
        refuses("no property and a wrong value", INDEX, x, () -> x.set(0, 7, -1));
    }

    private static void setRange() {
        sentence("Throws `IllegalArgumentException` if value is out of range");
        RailSequence x = oneRail();
        // each one is in the range of another property
        refuses("target 99", ARGUMENT, x, () -> x.set(0, 0, 99));
        refuses("rise 1001", ARGUMENT, x, () -> x.set(0, 1, 1001));
        refuses("fall 0", ARGUMENT, x, () -> x.set(0, 2, 0));
        refuses("threshold 49", ARGUMENT, x, () -> x.set(0, 3, 49));
        refuses("threshold 101", ARGUMENT, x, () -> x.set(0, 3, 101));
        refuses("delay 51", ARGUMENT, x, () -> x.set(0, 4, 51));
        refuses("patience 0", ARGUMENT, x, () -> x.set(0, 5, 0));
        refuses("patience 201", ARGUMENT, x, () -> x.set(0, 5, 201));
        refuses("tries 0", ARGUMENT, x, () -> x.set(0, 6, 0));
        refuses("tries 5", ARGUMENT, x, () -> x.set(0, 6, 5));
    }

    private static void setPrevious() {
        sentence("- `property`: 0 to 6");
        RailSequence first = oneRail();
        due("the first", 1000, first.set(0, 0, 1001));
        due("the last", 2, first.set(0, 6, 3));
        due("the first", 1001, first.rail(0, 0));
        due("the last", 3, first.rail(0, 6));
        refuses("one behind the last", INDEX, first, () -> first.set(0, 7, 3));
        refuses("one ahead of the first", INDEX, first, () -> first.set(0, -1, 1000));
        sentence("Returns the previous value.");
        RailSequence x = chain(8);
        due("patience of 7", 40, x.set(7, 5, 200));
        due("patience of 7", 200, x.set(7, 5, 200));
        due("patience of 7", 200, x.set(7, 5, 1));
        due("patience of 6", 40, x.set(6, 5, 1));
        undoable("set", x, () -> x.set(7, 5, 2));
        undoable("set to what it is", x, () -> x.set(7, 5, 1));
    }

    private static void setNeedsRange() {
        sentence("Throws `IllegalArgumentException` if needs has a bit that is not one of an earlier rail");
        RailSequence x = chain(8);
        for (int r = 0; r < 8; r++) {
            int rail = r;
            for (int bit = r; bit < 32; bit++) {
                int needs = 1 << bit;
                refuses(rail + " needs " + needs, ARGUMENT, x, () -> x.setNeeds(rail, needs));
            }
            refuses(rail + " needs all bits", ARGUMENT, x, () -> x.setNeeds(rail, -1));
            due("needs before, of " + r, r == 0 ? 0 : 1 << (r - 1), x.setNeeds(r, (1 << r) - 1));
        }
        x.on(1);
        x.tick(1);
        refuses("waiting and a wrong mask", ARGUMENT, x, () -> x.setNeeds(0, 1));
        for (int none : new int[] {-1, 8, 32, Integer.MIN_VALUE, Integer.MAX_VALUE}) {
            refuses("rail " + none, INDEX, x, () -> x.setNeeds(none, 0));
            refuses("rail " + none + " and a wrong mask", INDEX, x, () -> x.setNeeds(none, -1));
        }
    }

    private static void setNeedsStates() {
        sentence("Throws `IllegalStateException` if the rail is neither off nor failed");
        RailSequence x = fourRails();
        due("off", 1, x.setNeeds(1, 1));
        x.on(2);
        due("off, but wanted", 1, x.setNeeds(1, 1));
        x.tick(1);
        dueStates(x, WAITING, WAITING, OFF, OFF);
        refuses("waiting", STATE, x, () -> x.setNeeds(1, 1));
        x.tick(3);
        dueStates(x, GOOD, RISING, OFF, OFF);
        refuses("rising", STATE, x, () -> x.setNeeds(1, 1));
        x.tick(1);
        dueStates(x, GOOD, GOOD, OFF, OFF);
        refuses("good", STATE, x, () -> x.setNeeds(1, 1));
        x.restart(1);
        dueStates(x, GOOD, FALLING, OFF, OFF);
        refuses("falling", STATE, x, () -> x.setNeeds(1, 1));
        x.set(1, 6, 1);
        x.stick(1, 1);
        x.set(1, 5, 1);
        x.tick(10);
        dueStates(x, GOOD, FAILED, OFF, OFF);
        due("failed", 1, x.setNeeds(1, 0));
        due("needs", 0, x.rail(1, 7));
    }

    private static void setNeedsPrevious() {
        sentence("- `needs`: a bit mask of earlier rails");
        RailSequence most = chain(8);
        most.setNeeds(7, 127);
        due("all earlier ones", 127, most.rail(7, 7));
        most.setNeeds(7, 0);
        due("none", 0, most.rail(7, 7));
        most.setNeeds(1, 1);
        due("the only one", 1, most.rail(1, 7));
        most.setNeeds(0, 0);
        due("none of the first", 0, most.rail(0, 7));
        sentence("Returns the previous mask.");
        RailSequence x = chain(8);
        due("of 7", 64, x.setNeeds(7, 127));
        due("of 7", 127, x.setNeeds(7, 0));
        due("of 7", 0, x.setNeeds(7, 1));
        due("of 0", 0, x.setNeeds(0, 0));
        undoable("setNeeds", x, () -> x.setNeeds(7, 64));
        undoable("setNeeds to what it is", x, () -> x.setNeeds(7, 1));
    }

    private static void setResidueRange() {
        sentence("- `residue`: 0 to 500");
        RailSequence x = new RailSequence();
        due("before", 100, x.setResidue(0));
        due("the least", 0, x.count(2));
        due("the least before", 0, x.setResidue(500));
        due("the most", 500, x.count(2));
        sentence("Throws `IllegalArgumentException` if residue is out of range");
        refuses("-1", ARGUMENT, x, () -> x.setResidue(-1));
        refuses("501", ARGUMENT, x, () -> x.setResidue(501));
        for (int wild : WILD) {
            refuses("" + wild, ARGUMENT, x, () -> x.setResidue(wild));
        }
        sentence("Returns the previous residue.");
        due("500", 500, x.setResidue(7));
        due("7", 7, x.setResidue(7));
        undoable("setResidue", x, () -> x.setResidue(8));
        undoable("setResidue to what it is", x, () -> x.setResidue(7));
    }
}
