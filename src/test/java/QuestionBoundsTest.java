/** The boundary cases of promises 17 and 21 to 27, sentence by sentence. */
public final class QuestionBoundsTest extends Check {
    private static final int[] NO_RAILS = {-1, 8, 9, 32, Integer.MIN_VALUE, Integer.MAX_VALUE};

    public static void main(String[] args) {
        railArguments();
        railNumbers();
        firstBlame();
        countArguments();
        countMasks();
        wouldChange();
        goodInRange();
        goodInWanted();
        offInRange();
        offInNow();
        shortArguments();
        shortWithin();
        shortAnew();
        shortBehind();
        patienceRange();
        patienceAlone();
        shareOfNothing();
        shares();
        nothingIsChanged();
        digests();
        end();
    }

    // ---- what there is

    private static void railArguments() {
        sentence("Throws `IllegalArgumentException` if what is not 0 to 18");
        RailSequence x = chain(8);
        for (int what : new int[] {-1, 19, Integer.MIN_VALUE, Integer.MAX_VALUE}) {
            refuses("what " + what, ARGUMENT, x, () -> x.rail(7, what));
            refuses("what " + what + " of no rail", INDEX, x, () -> x.rail(8, what));
        }
        due("what 0", 1000, x.rail(7, 0));
        due("what 18", NONE, x.rail(7, 18));
        sentence("Throws `IndexOutOfBoundsException` if there is no such rail");
        for (int rail : NO_RAILS) {
            refuses("rail " + rail, INDEX, x, () -> x.rail(rail, 0));
            refuses("account of " + rail, INDEX, x, () -> x.account(rail, 0));
            refuses("forget of " + rail, INDEX, x, () -> x.forget(rail));
            refuses("ifShort of " + rail, INDEX, x, () -> x.ifShort(rail, 1, 0));
            refuses("leastPatience of " + rail, INDEX, x, () -> x.leastPatience(rail));
        }
        x.undo();
        x.undo();
        refuses("one that was undone", INDEX, x, () -> x.rail(7, 0));
        due("the one before it", 1000, x.rail(6, 0));
    }

    private static void railNumbers() {
        sentence("- `what`: 0 to 6: its properties; 7: the mask of those that it needs; 8: the mask of its followers; "
                + "9: 1 if it is wanted, else 0; 10: state; 11: voltage; 12: 1 if its flag is true, else 0; "
                + "13: how its flag is stuck; 14: for how many ticks it is shorted still; 15: time; 16: failures; "
                + "17: blame;");
        RailSequence x = fourGoodRails();
        int[] properties = {1200, 300, 21, 51, 41, 31, 3};
        for (int property = 0; property < 7; property++) {
            x.set(1, property, properties[property]);
        }
        x.stick(1, 1);
        x.shortCircuit(1, 9);
        x.tick(1);
        int[] numbers = {1200, 300, 21, 51, 41, 31, 3, 1, 8, 1, FALLING, 979, 0, 1, 8, 0, 1, 1, 1};
        for (int what = 0; what < 19; what++) {
            due("rail(1, " + what + ")", numbers[what], x.rail(1, what));
        }
        x.off(2);
        due("not wanted", 0, x.rail(1, 9));
        x.stick(1, 2);
        due("flag", 1, x.rail(1, 12));
        due("stuck", 2, x.rail(1, 13));
    }

    private static void firstBlame() {
        sentence("18: the first blame: the rail at the end of the way that goes from the rail to its blame, "
                + "from that to its blame, and so on, until one has no blame, or blames itself; "
                + "NONE if the rail has no blame");
        // the longest way of all: each blames the one before it, and 0 itself
        RailSequence x = goodChain(8);
        for (int r = 0; r < 8; r++) {
            x.set(r, 2, 1);
        }
        x.set(0, 6, 1);
        x.stick(0, 1);
        for (int ticks = 1; ticks <= 8; ticks++) {
            x.tick(1);
            for (int r = 0; r < 8; r++) {
                // 1 falls together with 0, and then one with each tick
                boolean hasFallen = r <= ticks;
                due("blame of " + r + " behind " + ticks, !hasFallen ? NONE : Math.max(0, r - 1), x.rail(r, 17));
                due("first blame of " + r + " behind " + ticks, hasFallen ? 0 : NONE, x.rail(r, 18));
            }
        }
        // one that blames itself in the middle of the chain
        RailSequence y = goodChain(4);
        y.stick(2, 1);
        y.tick(2);
        int[] first = {NONE, NONE, 2, 2};
        for (int r = 0; r < 4; r++) {
            due("first blame of " + r, first[r], y.rail(r, 18));
        }
        // the way ends at a rail that has no blame any more
        RailSequence z = goodChain(3);
        z.set(0, 6, 4);
        z.set(2, 2, 1);
        z.stick(0, 1);
        z.tick(1);
        z.stick(0, 0);
        z.tick(1);
        due("blame of 2", 1, z.rail(2, 17));
        due("first blame of 2", 0, z.rail(2, 18));
        z.tick(3);
        dueRail(z, 0, GOOD, 1000, 0, 1, NONE);
        due("first blame of 2, behind 1 to 0", 0, z.rail(2, 18));
        due("first blame of 1", 0, z.rail(1, 18));
        z.tick(2);
        dueRail(z, 1, GOOD, 1000, 0, 0, NONE);
        due("first blame of 2, at 1", 1, z.rail(2, 18));
        due("first blame of 1", NONE, z.rail(1, 18));
        // a restart in the middle
        RailSequence v = goodChain(8);
        v.restart(3);
        for (int r = 0; r < 8; r++) {
            due("first blame of " + r + " behind a restart", r < 3 ? NONE : 3, v.rail(r, 18));
        }
    }

    private static void countArguments() {
        sentence("Throws `IllegalArgumentException` if what is not 0 to 9");
        RailSequence x = new RailSequence();
        for (int what : new int[] {-1, 10, Integer.MIN_VALUE, Integer.MAX_VALUE}) {
            refuses("what " + what, ARGUMENT, x, () -> x.count(what));
        }
        due("what 0", 0, x.count(0));
        due("what 9", 1, x.count(9));
    }

    private static void countMasks() {
        sentence("- `what`: 0: rails; 1: number of the tick; 2: residue; 3: mask of wanted rails; "
                + "4: mask of good rails; 5: mask of failed rails; 6: entries in the log; "
                + "7: the sum of all voltages; 8: saved states;");
        RailSequence x = new RailSequence();
        for (int r = 0; r < 8; r++) {
            x.addRail(5000, 1000, 1000, 0);
            x.set(r, 6, 1);
        }
        x.on(255);
        x.tick(30);
        int[] good = {8, 30, 100, 255, 255, 0, 16, 40000, 6};
        for (int what = 0; what < good.length; what++) {
            due("count(" + what + ") of good ones", good[what], x.count(what));
        }
        for (int r = 0; r < 8; r++) {
            x.stick(r, 1);
        }
        x.tick(10);
        x.setResidue(0);
        int[] failed = {8, 40, 0, 255, 0, 255, 16, 0, 6};
        for (int what = 0; what < failed.length; what++) {
            due("count(" + what + ") of failed ones", failed[what], x.count(what));
        }
    }

    private static void wouldChange() {
        sentence("9: 1 if no voltage, state or time would change in the next tick, else 0");
        due("without rails", 1, new RailSequence().count(9));
        RailSequence x = quick(1000, 1000, 300);
        due("off", 1, x.count(9));
        x.on(1);
        due("the state alone", 0, x.count(9));
        x.set(0, 4, 50);
        x.tick(1);
        due("the time alone", 0, x.count(9));
        x.set(0, 4, 0);
        x.tick(2);
        dueRail(x, 0, GOOD, 1000, 0, 0, NONE);
        due("good", 1, x.count(9));
        x.set(0, 0, 1001);
        due("the voltage alone", 0, x.count(9));
        x.set(0, 0, 1000);
        x.off(1);
        due("the state alone", 0, x.count(9));
        x.tick(4);
        dueRail(x, 0, OFF, 100, 0, 0, NONE);
        due("the voltage alone of one that is off", 0, x.count(9));
        x.tick(1);
        due("off", 1, x.count(9));
        // neither shorts that run out nor the number of the tick are such changes
        x.shortCircuit(0, 5);
        due("a short of one that is off", 1, x.count(9));
        // of many rails one alone, the last one
        RailSequence y = chain(8);
        due("all off", 1, y.count(9));
        y.set(7, 2, 1);
        y.on(255);
        y.tick(30);
        due("all good", 1, y.count(9));
        y.set(7, 0, 1001);
        due("the voltage of the last one", 0, y.count(9));
        // a waiting one whose need does not come: its time is 0 and stays so
        RailSequence z = chain(2);
        z.set(0, 6, 1);
        z.set(0, 5, 1);
        z.stick(0, 1);
        z.on(3);
        z.tick(10);
        dueStates(z, FAILED, WAITING);
        due("waits for ever", 1, z.count(9));
        due("good in", NONE, z.allGoodIn());
    }

    // ---- forecasts

    private static void goodInRange() {
        sentence("Returns 0 to 1000; NONE if there is no such number (with no wanted rails: 0).");
        due("without rails", 0, new RailSequence().allGoodIn());
        RailSequence x = quick(1000, 1000, 500);
        due("with no wanted rails", 0, x.allGoodIn());
        x.on(1);
        due("in three ticks", 3, x.allGoodIn());
        x.tick(2);
        due("in one tick", 1, x.allGoodIn());
        x.tick(1);
        due("good", 0, x.allGoodIn());
        // a rail that falls by 1 in a tick, and then rises at once: with the second tick behind
        for (int ticks : new int[] {900, 998, 999, 1000}) {
            RailSequence y = fallingFor(ticks - 2);
            due("in " + ticks, ticks, y.allGoodIn());
        }
        due("in 1001", NONE, fallingFor(999).allGoodIn());
        due("in 1002", NONE, fallingFor(1000).allGoodIn());
        // never
        RailSequence z = quick(1000, 1, 500);
        z.set(0, 5, 1);
        z.on(1);
        due("never", NONE, z.allGoodIn());
        z.tick(100);
        due("failed", NONE, z.allGoodIn());
    }

    /** Wanted, and discharged with the tick of this number; good with the second one behind that. */
    private static RailSequence fallingFor(int ticks) {
        RailSequence x = quick(ticks, 1000, 1);
        x.setResidue(0);
        x.on(1);
        x.tick(10);
        dueStates(x, GOOD);
        due("voltage", ticks, x.rail(0, 11));
        x.restart(0);
        return x;
    }

    private static void goodInWanted() {
        sentence("Tells after how many ticks all wanted rails are in the state good.");
        RailSequence x = fourRails();
        x.on(2);
        due("2 and 3 are not wanted", 5, x.allGoodIn());
        x.on(8);
        due("3 too", 7, x.allGoodIn());
        x.tick(7);
        x.off(8);
        due("3 falls", 0, x.allGoodIn());
        x.off(1);
        due("none is wanted, all are good", 0, x.allGoodIn());
        // all at the same time: 1 is good while 0 is, not before it fails
        RailSequence y = new RailSequence();
        y.addRail(1000, 1000, 1000, 0);
        y.addRail(1000, 100, 1000, 0);
        y.set(0, 6, 1);
        y.on(3);
        y.tick(5);
        y.shortCircuit(0, 1);
        due("0 fails before 1 is good", NONE, y.allGoodIn());
        y.shortCircuit(0, 0);
        due("without the short", 8, y.allGoodIn());
        // with a short that is over later
        RailSequence z = quick(1000, 1000, 1000);
        z.set(0, 5, 200);
        z.on(1);
        z.shortCircuit(0, 150);
        due("when the short is over", 151, z.allGoodIn());
        z.tick(100);
        due("when the rest of it is over", 51, z.allGoodIn());
        // again and again, with tries that are enough
        RailSequence v = quick(1000, 1000, 500);
        v.set(0, 5, 3);
        v.set(0, 6, 4);
        v.on(1);
        v.shortCircuit(0, 12);
        due("with the third try", 13, v.allGoodIn());
    }

    private static void offInRange() {
        sentence("Returns 0 to 1000; NONE if there is no such number.");
        due("without rails", 0, new RailSequence().allOffIn());
        for (int ticks : new int[] {900, 998, 999, 1000}) {
            RailSequence x = fallingFor(ticks);
            due("in " + ticks, ticks, x.allOffIn());
        }
        due("in 1001", NONE, fallingFor(1001).allOffIn());
        due("in 5000", NONE, fallingFor(5000).allOffIn());
        sentence("Tells after how many ticks all rails are off and discharged, if off is called for all rails now.");
        RailSequence y = quick(1000, 1000, 500);
        due("off", 0, y.allOffIn());
        y.on(1);
        due("wanted and off", 0, y.allOffIn());
        y.tick(1);
        due("waiting", 1, y.allOffIn());
        y.tick(1);
        // not wanted, a rail that rises is up once more before it falls
        due("rising", 3, y.allOffIn());
        y.tick(1);
        due("good", 3, y.allOffIn());
        y.restart(0);
        due("falling", 2, y.allOffIn());
        y.undo();
        y.set(0, 6, 1);
        y.stick(0, 1);
        y.tick(1);
        due("failed", 2, y.allOffIn());
        due("wanted as before", 1, y.count(3));
    }

    private static void offInNow() {
        sentence("all rails are off and discharged");
        // off, but not discharged: with a residue that is lower than it was
        RailSequence x = quick(1000, 1000, 500);
        x.setResidue(500);
        x.on(1);
        x.tick(5);
        x.off(1);
        x.tick(2);
        dueRail(x, 0, OFF, 500, 0, 0, NONE);
        due("discharged", 0, x.allOffIn());
        x.setResidue(499);
        due("not discharged", 1, x.allOffIn());
        x.set(0, 2, 1);
        due("not discharged, by 1", 1, x.allOffIn());
        x.setResidue(498);
        due("not discharged, by 2", 2, x.allOffIn());
        // discharged, but not off
        RailSequence y = quick(1000, 1, 500);
        y.on(1);
        y.tick(3);
        dueRail(y, 0, RISING, 1, 1, 0, NONE);
        due("rising at the voltage 1", 2, y.allOffIn());
        // from the last to the first
        due("a chain of 8, each 3", 24, goodChain(8).allOffIn());
        // flags that are stuck hold nothing up
        RailSequence z = goodChain(2);
        z.stick(0, 2);
        z.stick(1, 2);
        z.shortCircuit(0, 500);
        due("stuck and shorted", 5, z.allOffIn());
    }

    private static void shortArguments() {
        sentence("- `ticks`: 1 to 500");
        RailSequence x = chain(8);
        due("1", 0, x.ifShort(7, 1, 0));
        due("500", 0, x.ifShort(7, 500, 2));
        sentence("Throws `IllegalArgumentException` if ticks or what is out of range");
        for (int ticks : new int[] {0, -1, 501, Integer.MIN_VALUE, Integer.MAX_VALUE}) {
            refuses("ticks " + ticks, ARGUMENT, x, () -> x.ifShort(7, ticks, 0));
            refuses("ticks " + ticks + " of no rail", INDEX, x, () -> x.ifShort(8, ticks, 0));
        }
        for (int what : new int[] {-1, 3, Integer.MIN_VALUE, Integer.MAX_VALUE}) {
            refuses("what " + what, ARGUMENT, x, () -> x.ifShort(7, 1, what));
            refuses("what " + what + " of no rail", INDEX, x, () -> x.ifShort(-1, 1, what));
        }
    }

    private static void shortWithin() {
        sentence("0: mask of the rails that become falling or failed at least once within 100 ticks");
        // a rail of the patience p that is about to rise fails with tick p + 1
        for (int patience = 97; patience <= 101; patience++) {
            RailSequence x = quick(1000, 1000, 500);
            x.set(0, 5, patience);
            x.on(1);
            x.tick(1);
            due("falling, patience " + patience, patience + 1 <= 100 ? 1 : 0, x.ifShort(0, 500, 0));
            x.set(0, 6, 1);
            due("failed, patience " + patience, patience + 1 <= 100 ? 1 : 0, x.ifShort(0, 500, 0));
            due("failed then, patience " + patience, patience + 1 <= 100 ? 1 : 0, x.ifShort(0, 500, 2));
        }
        // within the first tick, and with the shortest short
        RailSequence y = fourGoodRails();
        due("1 and 3", 10, y.ifShort(1, 1, 0));
        due("3", 8, y.ifShort(3, 1, 0));
        due("all", 15, y.ifShort(0, 1, 0));
        y.set(1, 2, 100);
        due("none: the flag stays true", 0, y.ifShort(1, 1, 0));
        due("the flag is lost with the second tick", 10, y.ifShort(1, 2, 0));
        // the short is there in place of a longer one
        y.shortCircuit(1, 500);
        due("in place of a longer one", 0, y.ifShort(1, 1, 0));
        due("of another rail, beside it", 14, y.ifShort(2, 1, 0));
    }

    private static void shortAnew() {
        sentence("(those that are so already, only if they become so anew)");
        RailSequence x = fourGoodRails();
        x.restart(1);
        dueStates(x, GOOD, FALLING, GOOD, FALLING);
        due("1 and 3 fall already and then are good", 4, x.ifShort(2, 1, 0));
        due("1 is shorted while it rises, and falls anew", 2, x.ifShort(1, 90, 0));
        due("1 and 3 are good then", 15, x.ifShort(2, 1, 1));
        RailSequence y = fourGoodRails();
        y.set(1, 6, 1);
        y.stick(1, 1);
        y.tick(1);
        dueStates(y, GOOD, FAILED, GOOD, FALLING);
        due("1 has failed, 3 falls", 0, y.ifShort(1, 500, 0));
        due("1 has failed still", 2, y.ifShort(1, 500, 2));
        due("beside them", 4, y.ifShort(2, 1, 0));
        due("0 with 2, not 1 and 3", 5, y.ifShort(0, 1, 0));
    }

    private static void shortBehind() {
        sentence("1: mask of the rails that are good behind these;");
        // a rail of the delay d that is off is good with tick d + 3, and the short is over
        for (int delay = 0; delay <= 50; delay += 25) {
            RailSequence x = oneRail();
            x.set(0, 1, 1000);
            x.set(0, 4, delay);
            x.set(0, 5, 200);
            x.on(1);
            due("short of 1, delay " + delay, 1, x.ifShort(0, 1, 1));
            due("short of 99, delay " + delay, 1, x.ifShort(0, 99, 1));
            due("short of 100, delay " + delay, 0, x.ifShort(0, 100, 1));
            due("no drop, delay " + delay, 0, x.ifShort(0, 100, 0));
        }
        RailSequence y = fourGoodRails();
        due("all again", 15, y.ifShort(0, 1, 1));
        sentence("2: mask of those that are failed then");
        due("none", 0, y.ifShort(0, 1, 2));
        y.set(1, 6, 1);
        due("1", 2, y.ifShort(1, 1, 2));
        due("0 and 2 are good", 5, y.ifShort(1, 1, 1));
        // one that has failed and becomes off is not failed then
        y.set(3, 6, 1);
        y.off(8);
        due("3 is off then", 0, y.ifShort(3, 1, 2));
        due("3 had failed", 8, y.ifShort(3, 1, 0));
    }

    private static void patienceRange() {
        sentence("Returns the least patience, 1 to 200; NONE if there is none.");
        duePatience(1000, 1000, 100, 1);
        duePatience(1000, 900, 90, 1);
        duePatience(1000, 899, 90, 2);
        duePatience(1000, 500, 100, 2);
        duePatience(1000, 499, 100, 3);
        duePatience(999, 899, 90, 2);
        duePatience(999, 900, 90, 1);
        duePatience(200, 1, 100, 200);
        duePatience(201, 1, 100, NONE);
        duePatience(400, 1, 50, 200);
        duePatience(401, 1, 50, NONE);
        duePatience(199, 1, 100, 199);
        duePatience(5000, 25, 100, 200);
        duePatience(5000, 24, 100, NONE);
        duePatience(5000, 1000, 100, 5);
        duePatience(5000, 1, 50, NONE);
        duePatience(100, 1, 50, 50);
        duePatience(100, 1000, 50, 1);
    }

    /** As told, and as it comes true: with the least patience the rail has no failure, with one less it has one. */
    private static void duePatience(int target, int rise, int threshold, int least) {
        RailSequence x = quick(target, rise, 1000);
        x.set(0, 3, threshold);
        due("least patience of " + target + ", " + rise + ", " + threshold, least, x.leastPatience(0));
        x.on(1);
        x.set(0, 5, least == NONE ? 200 : least);
        x.tick(200);
        x.tick(3);
        due("failures of " + target + ", " + rise + ", " + threshold, least == NONE ? 1 : 0, x.account(0, 2));
        due("good", least == NONE ? 0 : 1, x.account(0, 1));
        if (least > 1) {
            RailSequence y = quick(target, rise, 1000);
            y.set(0, 3, threshold);
            y.set(0, 6, 1);
            y.set(0, 5, least - 1);
            y.on(1);
            y.tick(200);
            y.tick(3);
            due("failures with one less", 1, y.account(0, 2));
        }
    }

    private static void patienceAlone() {
        sentence("Finds the least patience with which a rail that begins to rise with the voltage 0 would become good "
                + "without a failure, if it is not shorted, its flag is not stuck, "
                + "and the rails that it needs stay good.");
        RailSequence x = chain(2);
        x.set(1, 1, 100);
        due("off", 9, x.leastPatience(1));
        x.shortCircuit(1, 500);
        due("shorted", 9, x.leastPatience(1));
        x.stick(1, 1);
        due("stuck at false", 9, x.leastPatience(1));
        x.stick(1, 2);
        due("stuck at true", 9, x.leastPatience(1));
        x.stick(1, 0);
        x.stick(0, 1);
        due("with a need that is not good", 9, x.leastPatience(1));
        x.stick(0, 0);
        x.shortCircuit(1, 0);
        x.on(3);
        x.tick(8);
        dueRail(x, 1, RISING, 400, 4, 0, NONE);
        due("rising already", 9, x.leastPatience(1));
        x.set(1, 5, 1);
        x.set(1, 6, 1);
        x.tick(1);
        due("failed", 9, x.leastPatience(1));
        due("the other one", 1, x.leastPatience(0));
    }

    private static void shareOfNothing() {
        sentence("divided by the number of the tick times the number of rails; 0.0 if that is 0.");
        RailSequence x = new RailSequence();
        dueShare("without both", 0.0, x);
        x.tick(200);
        dueShare("without rails", 0.0, x);
        RailSequence y = oneRail();
        dueShare("without ticks", 0.0, y);
        y.tick(1);
        dueShare("without a good one", 0.0, y);
    }

    private static void shares() {
        sentence("Returns the sum of account(r, 3) over all rails, as a double,");
        RailSequence x = quick(1000, 1000, 500);
        x.on(1);
        x.tick(2);
        dueShare("rising", 0.0, x);
        for (int ticks = 1; ticks <= 300; ticks++) {
            x.tick(1);
            dueShare("good for " + ticks, (double) ticks / (double) (ticks + 2), x);
        }
        x.addRail(1000, 1000, 500, 0);
        dueShare("with a second one", 300.0 / 604.0, x);
        x.tick(1);
        dueShare("with a second one that is off", 301.0 / 606.0, x);
        x.undo();
        x.undo();
        dueShare("without it", 300.0 / 302.0, x);
        // 8 rails, up to the last tick of all
        RailSequence y = new RailSequence();
        for (int r = 0; r < 8; r++) {
            y.addRail(1000, 1000, 500, 0);
            y.set(r, 4, 0);
        }
        y.on(255);
        for (int i = 1; i <= 100; i++) {
            y.tick(200);
            dueShare("8 rails", 8.0 * (200 * i - 2) / (8.0 * 200 * i), y);
        }
        due("number of the tick", 20000, y.count(1));
        // the smallest one
        RailSequence z = new RailSequence();
        for (int r = 0; r < 8; r++) {
            z.addRail(1000, 1000, 500, 0);
        }
        z.set(0, 4, 0);
        z.on(1);
        z.tick(3);
        z.stick(0, 1);
        z.off(1);
        for (int i = 0; i < 99; i++) {
            z.tick(200);
        }
        z.tick(197);
        dueShare("1 of 160000", 1.0 / 160000.0, z);
        dueDigest("the smallest share", z, "");
    }

    private static void dueShare(String what, double want, RailSequence x) {
        due("share " + what + ", " + want + ", as bits", Double.doubleToLongBits(want),
                Double.doubleToLongBits(x.goodShare()));
    }

    private static void nothingIsChanged() {
        sentence("what would be; nothing is changed.");
        for (int kind = 0; kind < 2; kind++) {
            RailSequence x = kind == 0 ? goodChain(8) : fourRails();
            x.on(7);
            x.shortCircuit(1, 3);
            x.stick(2, 1);
            x.tick(2);
            type(x, "100/1/1");
            String before = seen(x);
            int saved = x.count(8);
            x.allGoodIn();
            dueText("behind allGoodIn", before, seen(x));
            x.allOffIn();
            dueText("behind allOffIn", before, seen(x));
            for (int what = 0; what < 3; what++) {
                x.ifShort(0, 500, what);
                dueText("behind ifShort", before, seen(x));
            }
            x.leastPatience(0);
            x.goodShare();
            x.digest();
            x.count(9);
            dueText("behind the others", before, seen(x));
            due("saved states", saved, x.count(8));
            due("the buffer", 7, x.clearBuffer());
            // and the ticks go on as without them
            RailSequence y = kind == 0 ? goodChain(8) : fourRails();
            y.on(7);
            y.shortCircuit(1, 3);
            y.stick(2, 1);
            y.tick(2);
            due("changes", y.tick(50), x.tick(50));
            dueText("later", seen(y), seen(x));
        }
    }

    // ---- the hash

    private static void digests() {
        sentence("The hash starts at 2179. For each value v of the following list, in order, the hash becomes "
                + "31 * hash + v, in long arithmetic with overflow.");
        dueDigest("new", new RailSequence(), "");
        RailSequence x = new RailSequence();
        type(x, "~".repeat(60));
        dueDigest("full buffer", x, "~".repeat(60));
        sentence("for each entry of the log, from the latest one on, its numbers 0 to 3; allGoodIn, allOffIn; "
                + "the bits of goodShare (as Double.doubleToLongBits); the length of the buffer and each of "
                + "its character codes.");
        RailSequence y = goodChain(8);
        dueDigest("8 rails, full log", y, "");
        type(y, "100/1/1");
        dueDigest("8 rails, full log, a text", y, "100/1/1");
        y.stick(0, 1);
        y.shortCircuit(4, 500);
        y.tick(3);
        dueDigest("with blames", y, "100/1/1");
        y.forget(0);
        y.forget(1);
        y.forget(2);
        dueDigest("with less in the log", y, "100/1/1");
        for (int r = 3; r < 8; r++) {
            y.forget(r);
        }
        dueDigest("with nothing in the log", y, "100/1/1");
        y.off(1);
        y.tick(200);
        dueDigest("off", y, "100/1/1");
    }
}
