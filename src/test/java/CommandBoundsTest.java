import java.util.function.IntSupplier;

/** The boundary cases of promises 6 to 10 and 16, of undo and of exceptions, sentence by sentence. */
public final class CommandBoundsTest extends Check {
    private static final int[] NO_RAILS = {-1, 8, 9, 31, 32, Integer.MIN_VALUE, Integer.MAX_VALUE};

    public static void main(String[] args) {
        onRails();
        offRails();
        masksThen();
        masksOfNoRail();
        restartStates();
        restartBlame();
        restartLog();
        restartReturns();
        restartRefused();
        shortFromTheNextTick();
        shortRange();
        stickReturns();
        undoableCalls();
        notUndoableCalls();
        sixStates();
        undoLeavesTheBuffer();
        undoReturns();
        refusedChangesNothing();
        firstNamed();
        end();
    }

    // ---- on and off

    private static void onRails() {
        sentence("Wants rails, with all rails that these need, and so on. Undoable.");
        RailSequence x = chain(8);
        due("the first", 1, x.on(1));
        due("none more", 1, x.on(0));
        due("the fourth, with those below", 15, x.on(8));
        undoable("on", x, () -> x.on(128));
        undoable("on of those that are", x, () -> x.on(15));
        due("the last, with all", 255, x.on(128));
        due("all at once", 255, x.on(255));
        due("mask", 255, x.count(3));
        RailSequence y = fourRails();
        due("2 with 0, without 1", 5, y.on(4));
        due("3 with 1, beside 2", 15, y.on(8));
        // the needs of those that are wanted already are not looked at, but of those that are named
        RailSequence z = fourRails();
        z.setNeeds(1, 0);
        due("1 alone", 2, z.on(2));
        z.setNeeds(1, 1);
        due("none", 2, z.on(0));
        due("2 with 0", 7, z.on(4));
        z.undo();
        due("1 once more", 3, z.on(2));
        RailSequence none = new RailSequence();
        due("without rails", 0, none.on(0));
    }

    private static void offRails() {
        sentence("Does not want rails any more, with all their followers. Undoable.");
        RailSequence x = chain(8);
        x.on(255);
        due("none", 255, x.off(0));
        due("the last alone", 127, x.off(128));
        due("the fifth, with those above", 15, x.off(16));
        due("one that is not wanted", 15, x.off(32));
        undoable("off", x, () -> x.off(1));
        undoable("off of none", x, () -> x.off(0));
        due("the first, with all", 0, x.off(1));
        due("all, again", 0, x.off(255));
        due("mask", 0, x.count(3));
        RailSequence y = fourRails();
        y.on(15);
        due("1 with 3, beside 0 and 2", 5, y.off(2));
        // a follower of one that is not wanted itself
        RailSequence z = fourRails();
        z.setNeeds(1, 0);
        z.on(2);
        z.setNeeds(1, 1);
        due("1 as a follower of 0", 0, z.off(1));
        RailSequence none = new RailSequence();
        due("without rails", 0, none.off(0));
    }

    private static void masksThen() {
        sentence("Returns the mask of all rails that are wanted then.");
        RailSequence x = chain(8);
        int[] on = {0, 1, 4, 1, 128, 0};
        int[] wantedByOn = {0, 1, 7, 7, 255, 255};
        for (int i = 0; i < on.length; i++) {
            due("on " + on[i], wantedByOn[i], x.on(on[i]));
            due("mask", wantedByOn[i], x.count(3));
        }
        int[] off = {0, 128, 4, 128, 1, 0};
        int[] wantedByOff = {255, 127, 3, 3, 0, 0};
        for (int i = 0; i < off.length; i++) {
            due("off " + off[i], wantedByOff[i], x.off(off[i]));
            due("mask", wantedByOff[i], x.count(3));
        }
    }

    private static void masksOfNoRail() {
        sentence("Throws `IllegalArgumentException` if rails has a bit of no rail that there is");
        RailSequence x = new RailSequence();
        for (int rails = 0; rails <= 8; rails++) {
            for (int bit = rails; bit < 32; bit++) {
                int mask = 1 << bit;
                refuses(rails + " rails, on " + mask, ARGUMENT, x, () -> x.on(mask));
                refuses(rails + " rails, off " + mask, ARGUMENT, x, () -> x.off(mask));
                refuses(rails + " rails, on one more", ARGUMENT, x, () -> x.on(mask | mask - 1));
                refuses(rails + " rails, off one more", ARGUMENT, x, () -> x.off(mask | mask - 1));
            }
            refuses(rails + " rails, on all bits", ARGUMENT, x, () -> x.on(-1));
            refuses(rails + " rails, off all bits", ARGUMENT, x, () -> x.off(-1));
            due("all that there are", (1 << rails) - 1, x.on((1 << rails) - 1));
            due("all that there are, off", 0, x.off((1 << rails) - 1));
            if (rails < 8) {
                x.addRail(100, 1, 1, 0);
            }
        }
    }

    // ---- restart

    private static void restartStates() {
        sentence("those of them that are rising or good, and those that are failed and wanted, become falling;");
        RailSequence x = oneRail();
        x.on(1);
        due("off", 0, x.restart(0));
        dueRail(x, 0, OFF, 0, 0, 0, NONE);
        x.tick(3);
        due("waiting", 0, x.restart(0));
        dueRail(x, 0, WAITING, 0, 2, 0, NONE);
        x.tick(2);
        due("rising", 1, x.restart(0));
        dueRail(x, 0, FALLING, 400, 1, 0, 0);
        x.undo();
        x.tick(2);
        due("good", 1, x.restart(0));
        dueRail(x, 0, FALLING, 1000, 2, 0, 0);
        due("falling", 0, x.restart(0));
        dueRail(x, 0, FALLING, 1000, 2, 0, 0);
        x.undo();
        x.undo();
        x.set(0, 6, 1);
        x.stick(0, 1);
        x.tick(1);
        dueRail(x, 0, FAILED, 1000, 2, 1, 0);
        due("failed", 1, x.restart(0));
        dueRail(x, 0, FALLING, 1000, 2, 0, 0);
        sentence("Restarts a rail and its followers:");
        // 0 is above it, 2 is beside it, 3 is its follower
        RailSequence y = fourGoodRails();
        due("1 with 3", 2, y.restart(1));
        dueStates(y, GOOD, FALLING, GOOD, FALLING);
        y.undo();
        due("3 alone", 1, y.restart(3));
        dueStates(y, GOOD, GOOD, GOOD, FALLING);
        // followers in each state
        RailSequence z = followersInAllStates();
        due("0, a good one, a rising one, and a failed one that is wanted", 4, z.restart(0));
        dueStates(z, FALLING, OFF, WAITING, FALLING, FALLING, FALLING, FALLING, FAILED);
    }

    /** 0 is good; of its users 1 is off, 2 waiting, 3 rising, 4 good, 5 falling, 6 failed, 7 failed and not wanted. */
    private static RailSequence followersInAllStates() {
        RailSequence x = new RailSequence();
        x.addRail(1000, 1000, 500, 0);
        for (int r = 1; r < 8; r++) {
            x.addRail(1000, r == 3 ? 1 : 1000, 1, 1);
            x.set(r, 4, r == 2 ? 50 : 0);
            x.set(r, 6, r == 5 ? 2 : 1);
        }
        x.on(253);
        x.set(3, 5, 200);
        x.tick(12);
        x.stick(5, 1);
        x.stick(6, 1);
        x.stick(7, 1);
        x.tick(1);
        x.off(128);
        dueStates(x, GOOD, OFF, WAITING, RISING, GOOD, FALLING, FAILED, FAILED);
        return x;
    }

    private static void restartBlame() {
        sentence("of those that do, the blame becomes the rail (also of that rail itself), and the failures become 0; "
                + "the others stay as they are.");
        RailSequence x = followersInAllStates();
        String[] before = new String[8];
        for (int r = 0; r < 8; r++) {
            before[r] = railText(x, r);
        }
        dueRail(x, 5, FALLING, 1000, 0, 1, 5);
        dueRail(x, 6, FAILED, 1000, 0, 1, 6);
        int time = x.rail(3, 15);
        x.restart(0);
        dueRail(x, 0, FALLING, 1000, 0, 0, 0);
        dueRail(x, 3, FALLING, time, time, 0, 0);
        dueRail(x, 4, FALLING, 1000, 0, 0, 0);
        dueRail(x, 6, FALLING, 1000, 0, 0, 0);
        for (int r : new int[] {1, 2, 5, 7}) {
            dueText("rail " + r, before[r], railText(x, r));
        }
        // the rail itself falls already: its blame and its failures stay, a follower's become those of the restart
        RailSequence y = goodChain(2);
        y.stick(1, 2);
        y.set(1, 3, 50);
        y.set(0, 6, 4);
        y.shortCircuit(0, 1);
        y.off(2);
        y.tick(1);
        dueRail(y, 0, FALLING, 500, 0, 1, 0);
        dueRail(y, 1, FALLING, 1000, 0, 0, 0);
        due("none that can", 0, y.restart(0));
        dueRail(y, 0, FALLING, 500, 0, 1, 0);
        // a follower behind one that stays as it is
        RailSequence z = goodChain(3);
        z.set(1, 6, 2);
        z.stick(1, 1);
        z.tick(1);
        dueStates(z, GOOD, FALLING, FALLING);
        due("0 alone, the others fall", 1, z.restart(0));
        due("blame of 1", 1, z.rail(1, 17));
        due("blame of 2", 1, z.rail(2, 17));
        due("failures of 1", 1, z.rail(1, 16));
        RailSequence v = goodChain(3);
        v.stick(1, 2);
        v.stick(0, 1);
        v.tick(1);
        dueStates(v, FALLING, FALLING, GOOD);
        due("2 alone, behind 1 that falls already", 1, v.restart(0));
        dueRail(v, 0, FALLING, 1000, 0, 1, 0);
        dueRail(v, 1, FALLING, 1000, 0, 0, 0);
        dueRail(v, 2, FALLING, 1000, 0, 0, 0);
    }

    private static void restartLog() {
        sentence("These changes are entered into the log, in ascending order; the accounts stay.");
        RailSequence x = goodChain(8);
        String[] accounts = new String[8];
        for (int r = 0; r < 8; r++) {
            accounts[r] = accountText(x, r);
        }
        due("6 of 8", 6, x.restart(2));
        due("entries", 16, x.count(6));
        for (int back = 0; back < 6; back++) {
            dueEntry(x, back, 30, 7 - back, FALLING, 2);
        }
        due("an entry from before", GOOD, x.entry(6, 2));
        for (int r = 0; r < 8; r++) {
            dueText("accounts of " + r, accounts[r], accountText(x, r));
        }
        RailSequence y = fourGoodRails();
        y.forget(0);
        y.forget(1);
        y.forget(2);
        y.forget(3);
        due("1 and 3", 2, y.restart(1));
        due("entries", 2, y.count(6));
        dueEntry(y, 0, 20, 3, FALLING, 1);
        dueEntry(y, 1, 20, 1, FALLING, 1);
        dueEntry(y, 2, NONE, NONE, NONE, NONE);
        undoable("restart", y, () -> y.restart(0));
    }

    private static String accountText(RailSequence x, int rail) {
        return x.account(rail, 0) + "," + x.account(rail, 1) + "," + x.account(rail, 2) + "," + x.account(rail, 3);
    }

    private static void restartReturns() {
        sentence("Returns how many become falling.");
        RailSequence x = goodChain(8);
        due("the last", 1, x.restart(7));
        due("all but one", 7, x.restart(0));
        due("none", 0, x.restart(0));
        undoable("restart of none", x, () -> x.restart(0));
        x.tick(100);
        due("good again", 255, x.count(4));
        due("all", 8, x.restart(0));
    }

    private static void restartRefused() {
        sentence("Throws `IllegalStateException` if the rail is not wanted");
        RailSequence x = fourGoodRails();
        x.off(8);
        refuses("not wanted, but good", STATE, x, () -> x.restart(3));
        due("a good follower that is not wanted falls too", 2, x.restart(1));
        RailSequence y = oneRail();
        refuses("not wanted, off", STATE, y, () -> y.restart(0));
        y.on(1);
        due("wanted, off", 0, y.restart(0));
        for (int none : NO_RAILS) {
            refuses("rail " + none, INDEX, y, () -> y.restart(none));
        }
        refuses("rail 1 of 1", INDEX, y, () -> y.restart(1));
    }

    // ---- shorts and flags

    private static void shortFromTheNextTick() {
        sentence("Shorts a rail from the next tick on. Undoable.");
        RailSequence x = quick(1000, 1000, 300);
        x.on(1);
        x.tick(5);
        x.shortCircuit(0, 1);
        dueRail(x, 0, GOOD, 1000, 0, 0, NONE);
        due("flag", 1, x.rail(0, 12));
        x.tick(1);
        dueRail(x, 0, FALLING, 700, 0, 1, 0);
        undoable("short", x, () -> x.shortCircuit(0, 500));
        undoable("short of 0 ticks", x, () -> x.shortCircuit(0, 0));
        // for as many ticks as told: 1, 2, and 500
        for (int ticks : new int[] {1, 2, 3}) {
            RailSequence y = quick(1000, 1000, 10);
            y.stick(0, 2);
            y.on(1);
            y.tick(5);
            y.shortCircuit(0, ticks);
            y.tick(ticks);
            due("voltage behind " + ticks, 1000 - 10 * ticks, y.rail(0, 11));
            y.tick(1);
            due("voltage behind one more", 1000, y.rail(0, 11));
        }
        RailSequence z = quick(5000, 1000, 10);
        z.stick(0, 2);
        z.on(1);
        z.tick(10);
        z.shortCircuit(0, 500);
        z.tick(200);
        z.tick(200);
        z.tick(100);
        due("voltage behind 500", 0, z.rail(0, 11));
        z.tick(1);
        due("voltage behind 501", 1000, z.rail(0, 11));
        // none
        RailSequence v = quick(1000, 1000, 300);
        v.on(1);
        v.tick(5);
        v.shortCircuit(0, 0);
        v.tick(5);
        dueRail(v, 0, GOOD, 1000, 0, 0, NONE);
        v.shortCircuit(0, 9);
        v.shortCircuit(0, 0);
        v.tick(5);
        dueRail(v, 0, GOOD, 1000, 0, 0, NONE);
    }

    private static void shortRange() {
        sentence("- `ticks`: for how many ticks, 0 to 500");
        RailSequence x = chain(8);
        x.shortCircuit(7, 500);
        due("the most", 500, x.rail(7, 14));
        x.shortCircuit(7, 0);
        due("the least", 0, x.rail(7, 14));
        sentence("Throws `IllegalArgumentException` if ticks is out of range");
        for (int ticks : new int[] {-1, 501, Integer.MIN_VALUE, Integer.MAX_VALUE}) {
            refuses("ticks " + ticks, ARGUMENT, x, () -> x.shortCircuit(7, ticks));
            refuses("ticks " + ticks + " of no rail", INDEX, x, () -> x.shortCircuit(8, ticks));
        }
        for (int none : NO_RAILS) {
            refuses("rail " + none, INDEX, x, () -> x.shortCircuit(none, 1));
            refuses("stick of " + none, INDEX, x, () -> x.stick(none, 1));
            refuses("stick of " + none + ", wrong", INDEX, x, () -> x.stick(none, 3));
        }
        sentence("Returns for how many ticks it was shorted still.");
        due("not at all", 0, x.shortCircuit(7, 500));
        due("the most", 500, x.shortCircuit(7, 3));
        x.tick(2);
        due("what is left", 1, x.shortCircuit(7, 0));
        due("freed", 0, x.shortCircuit(7, 1));
        x.tick(1);
        due("over", 0, x.shortCircuit(7, 0));
        due("another rail", 0, x.rail(6, 14));
    }

    private static void stickReturns() {
        sentence("Returns how it was.");
        RailSequence x = chain(8);
        due("at first", 0, x.stick(7, 1));
        x.tick(200);
        due("false, for ever", 1, x.stick(7, 2));
        due("true", 2, x.stick(7, 2));
        due("true", 2, x.stick(7, 0));
        due("free", 0, x.stick(7, 0));
        due("another rail", 0, x.rail(6, 13));
        undoable("stick", x, () -> x.stick(7, 1));
        undoable("stick as it is", x, () -> x.stick(7, 0));
    }

    // ---- undo

    private static void undoableCalls() {
        sentence("Each method that is marked \"undoable\" and does not throw an exception saves the state from before "
                + "it (also if it changes nothing): all but the buffer and the saved states.");
        RailSequence x = threeRails();
        undoable("addRail", x, () -> x.addRail(100, 1, 1, 7));
        undoable("set", x, () -> x.set(1, 5, 7));
        undoable("set to what it is", x, () -> x.set(1, 5, 40));
        undoable("setNeeds", x, () -> x.setNeeds(2, 0));
        undoable("setNeeds to what it is", x, () -> x.setNeeds(2, 2));
        undoable("setResidue", x, () -> x.setResidue(5));
        undoable("setResidue to what it is", x, () -> x.setResidue(100));
        undoable("on", x, () -> x.on(4));
        undoable("on of none", x, () -> x.on(0));
        undoable("off", x, () -> x.off(1));
        undoable("off of none", x, () -> x.off(0));
        undoable("restart", x, () -> x.restart(0));
        undoable("shortCircuit", x, () -> x.shortCircuit(0, 5));
        undoable("shortCircuit as it is", x, () -> x.shortCircuit(0, 0));
        undoable("stick", x, () -> x.stick(0, 1));
        undoable("stick as it is", x, () -> x.stick(0, 0));
        undoable("tick", x, () -> x.tick(1));
        undoable("tick of many", x, () -> x.tick(200));
        undoable("forget", x, () -> x.forget(0));
        undoable("forget of none", x, () -> x.forget(2));
        undoable("load", x, x::load);
        due("saved states", 3, x.count(8));
        RailSequence y = oneRail();
        y.on(1);
        undoable("restart of none", y, () -> y.restart(0));
        RailSequence good = goodChain(8);
        undoable("ticks of 8 good rails", good, () -> good.tick(200));
        RailSequence full = goodChain(8);
        for (int r = 0; r < 8; r++) {
            full.stick(r, 1 + r % 2);
            full.shortCircuit(r, 1 + r);
        }
        full.tick(3);
        undoable("all of 8 rails", full, () -> full.tick(200));
        RailSequence z = new RailSequence();
        undoable("tick without rails", z, () -> z.tick(1));
        undoable("on without rails", z, () -> z.on(0));
    }

    /** 0 and 1 on it are good, 2 on 1 is off; 3 states are saved, and a text is in the buffer. */
    private static RailSequence threeRails() {
        RailSequence x = new RailSequence();
        type(x, "1000/1000/500;1000/1000/500<0;1000/1000/500<1");
        x.load();
        x.on(2);
        x.tick(20);
        type(x, "100/1/1<012");
        dueStates(x, GOOD, GOOD, OFF);
        due("saved states", 3, x.count(8));
        return x;
    }

    private static void notUndoableCalls() {
        sentence("Restores the latest saved state, and drops it.");
        RailSequence x = threeRails();
        String before = seen(x);
        x.setResidue(7);
        notUndoable("append", x, () -> x.append(59));
        notUndoable("firstError", x, x::firstError);
        notUndoable("clearBuffer", x, x::clearBuffer);
        notUndoable("clearBuffer of none", x, x::clearBuffer);
        notUndoable("rail", x, () -> x.rail(0, 0));
        notUndoable("account", x, () -> x.account(0, 0));
        notUndoable("entry", x, () -> x.entry(0, 0));
        for (int what = 0; what < 10; what++) {
            int which = what;
            notUndoable("count " + what, x, () -> x.count(which));
        }
        notUndoable("allGoodIn", x, x::allGoodIn);
        notUndoable("allOffIn", x, x::allOffIn);
        notUndoable("ifShort", x, () -> x.ifShort(0, 9, 0));
        notUndoable("leastPatience", x, () -> x.leastPatience(0));
        notUndoable("goodShare", x, () -> (int) x.goodShare());
        notUndoable("digest", x, () -> (int) x.digest());
        due("states left", 3, x.undo());
        dueText("the state before setResidue", before, seen(x));
        due("states left", 2, x.undo());
        due("number of the tick before tick", 0, x.count(1));
        due("wanted before tick", 3, x.count(3));
        due("entries before tick", 0, x.count(6));
        due("states left", 1, x.undo());
        due("wanted before on", 0, x.count(3));
        due("rails before on", 3, x.count(0));
        due("states left", 0, x.undo());
        due("rails before load", 0, x.count(0));
    }

    private static void notUndoable(String what, RailSequence x, IntSupplier call) {
        int saved = x.count(8);
        String before = seen(x);
        call.getAsInt();
        due("saved states behind " + what, saved, x.count(8));
        dueText("all behind " + what, before, seen(x));
    }

    private static void sixStates() {
        sentence("At most 6 states are saved; the oldest one is dropped first.");
        for (int calls = 1; calls <= 20; calls++) {
            RailSequence x = new RailSequence();
            for (int i = 1; i <= calls; i++) {
                x.setResidue(200 + i);
                due("saved states behind " + i, Math.min(i, 6), x.count(8));
            }
            int left = Math.min(calls, 6);
            for (int i = calls - 1; left > 0; i--) {
                left--;
                due("left of " + calls, left, x.undo());
                due("residue behind " + calls, i == 0 ? 100 : 200 + i, x.count(2));
            }
            refuses("undo of none, behind " + calls, STATE, x, x::undo);
        }
        // saved again on the way back: what was undone does not come back
        RailSequence y = new RailSequence();
        for (int i = 1; i <= 6; i++) {
            y.setResidue(200 + i);
        }
        y.undo();
        y.undo();
        y.setResidue(300);
        due("saved states", 5, y.count(8));
        due("left", 4, y.undo());
        due("residue", 204, y.count(2));
        due("left", 3, y.undo());
        due("residue", 203, y.count(2));
    }

    private static void undoLeavesTheBuffer() {
        sentence("all but the buffer and the saved states.");
        RailSequence x = new RailSequence();
        x.setResidue(7);
        type(x, "100/1/1");
        x.undo();
        due("the text stays", 1, x.load());
        x.undo();
        due("rails", 0, x.count(0));
        due("the buffer stays cleared", 0, x.clearBuffer());
        type(x, "abc");
        x.setResidue(7);
        x.clearBuffer();
        x.undo();
        due("the buffer stays cleared", 0, x.clearBuffer());
    }

    private static void undoReturns() {
        sentence("Returns how many saved states are left.");
        RailSequence x = new RailSequence();
        x.on(0);
        due("of one", 0, x.undo());
        x.on(0);
        x.on(0);
        due("of two", 1, x.undo());
        due("of one", 0, x.undo());
        for (int i = 0; i < 7; i++) {
            x.on(0);
        }
        due("of six", 5, x.undo());
        sentence("Throws `IllegalStateException` if there is none");
        RailSequence y = new RailSequence();
        refuses("of a new object", STATE, y, y::undo);
        y.append(49);
        y.clearBuffer();
        refuses("without an undoable call", STATE, y, y::undo);
        y.tick(1);
        y.undo();
        refuses("undone already", STATE, y, y::undo);
    }

    // ---- exceptions

    private static void refusedChangesNothing() {
        sentence("A call that throws an exception changes nothing.");
        RailSequence x = threeRails();
        String before = seen(x);
        refuses("addRail", ARGUMENT, x, () -> x.addRail(99, 1, 1, 0));
        refuses("set", INDEX, x, () -> x.set(3, 0, 100));
        refuses("set", ARGUMENT, x, () -> x.set(0, 0, 99));
        refuses("setNeeds", INDEX, x, () -> x.setNeeds(3, 0));
        refuses("setNeeds", ARGUMENT, x, () -> x.setNeeds(2, 4));
        refuses("setNeeds", STATE, x, () -> x.setNeeds(1, 0));
        refuses("setResidue", ARGUMENT, x, () -> x.setResidue(501));
        refuses("on", ARGUMENT, x, () -> x.on(12));
        refuses("off", ARGUMENT, x, () -> x.off(9));
        refuses("restart", INDEX, x, () -> x.restart(3));
        refuses("restart", STATE, x, () -> x.restart(2));
        refuses("shortCircuit", INDEX, x, () -> x.shortCircuit(3, 1));
        refuses("shortCircuit", ARGUMENT, x, () -> x.shortCircuit(0, 501));
        refuses("stick", INDEX, x, () -> x.stick(3, 1));
        refuses("stick", ARGUMENT, x, () -> x.stick(0, 3));
        refuses("tick", ARGUMENT, x, () -> x.tick(201));
        refuses("append", ARGUMENT, x, () -> x.append(127));
        refuses("rail", INDEX, x, () -> x.rail(3, 0));
        refuses("rail", ARGUMENT, x, () -> x.rail(0, 19));
        refuses("account", INDEX, x, () -> x.account(3, 0));
        refuses("account", ARGUMENT, x, () -> x.account(0, 4));
        refuses("entry", ARGUMENT, x, () -> x.entry(16, 0));
        refuses("forget", INDEX, x, () -> x.forget(3));
        refuses("count", ARGUMENT, x, () -> x.count(10));
        refuses("ifShort", INDEX, x, () -> x.ifShort(3, 1, 0));
        refuses("ifShort", ARGUMENT, x, () -> x.ifShort(0, 501, 0));
        refuses("leastPatience", INDEX, x, () -> x.leastPatience(3));
        x.append('x');
        refuses("load", ARGUMENT, x, x::load);
        type(x, "100/1/1;100/1/1<4;100/1/1<5;100/1/1<6");
        refuses("load", STATE, x, x::load);
        due("rails of a text that was refused", 3, x.count(0));
        dueText("all", before, seen(x));
        type(x, "~".repeat(60));
        refuses("append", STATE, x, () -> x.append('~'));
        for (int left = 2; left >= 0; left--) {
            due("states left", left, x.undo());
        }
        refuses("undo", STATE, x, x::undo);
        // with room for one more saved state, which a refused call must not take
        RailSequence y = new RailSequence();
        type(y, "100/1/1;100/1/1;100/1/1;100/1/1;100/1/1;100/1/1;100/1/1");
        y.load();
        y.addRail(100, 1, 1, 0);
        due("saved states", 2, y.count(8));
        refuses("addRail", STATE, y, () -> y.addRail(100, 1, 1, 0));
        RailSequence z = oneRail();
        for (int i = 0; i < 99; i++) {
            z.tick(200);
        }
        z.tick(150);
        z.tick(1);
        z.undo();
        due("saved states", 5, z.count(8));
        refuses("tick", STATE, z, () -> z.tick(51));
    }

    private static void firstNamed() {
        sentence("If several exceptions apply, the one that is named first in the throws clause is thrown.");
        RailSequence x = chain(8);
        refuses("addRail", ARGUMENT, x, () -> x.addRail(99, 1, 1, 0));
        refuses("addRail", ARGUMENT, x, () -> x.addRail(100, 0, 1, 0));
        refuses("addRail", ARGUMENT, x, () -> x.addRail(100, 1, 0, 0));
        refuses("addRail", ARGUMENT, x, () -> x.addRail(100, 1, 1, 256));
        refuses("set", INDEX, x, () -> x.set(8, 0, 99));
        refuses("set", INDEX, x, () -> x.set(0, 7, -1));
        refuses("set", INDEX, x, () -> x.set(-1, -1, -1));
        x.on(1);
        x.tick(1);
        refuses("setNeeds", INDEX, x, () -> x.setNeeds(8, 256));
        refuses("setNeeds", ARGUMENT, x, () -> x.setNeeds(0, 1));
        refuses("restart", INDEX, x, () -> x.restart(8));
        refuses("shortCircuit", INDEX, x, () -> x.shortCircuit(8, 501));
        refuses("stick", INDEX, x, () -> x.stick(8, 3));
        refuses("rail", INDEX, x, () -> x.rail(8, 19));
        refuses("account", INDEX, x, () -> x.account(8, 4));
        refuses("ifShort", INDEX, x, () -> x.ifShort(8, 501, 3));
        type(x, "100/1/1<7");
        refuses("load", ARGUMENT, x, x::load);
        type(x, "100/1/1;");
        refuses("load", ARGUMENT, x, x::load);
        type(x, "~".repeat(60));
        refuses("append", ARGUMENT, x, () -> x.append(32));
        for (int i = 0; i < 99; i++) {
            x.tick(200);
        }
        x.tick(199);
        due("number of the tick", 20000, x.count(1));
        refuses("tick", ARGUMENT, x, () -> x.tick(0));
        refuses("tick", ARGUMENT, x, () -> x.tick(201));
        refuses("tick", STATE, x, () -> x.tick(1));
    }
}
