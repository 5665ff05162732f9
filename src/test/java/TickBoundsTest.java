/** The boundary cases of a tick, of the log, of the accounts, and of promises 11 and 18 to 20, sentence by sentence. */
public final class TickBoundsTest extends Check {
    public static void main(String[] args) {
        voltageUpAndDown();
        voltageToZero();
        statesOfTheBeginning();
        voltagesBehindPartOne();
        off();
        waitingNotWanted();
        waitingOnNeeds();
        waitingForTheDelay();
        waitingSetBack();
        risingNotWanted();
        risingWithoutNeed();
        risingToGood();
        risingOutOfPatience();
        goodWithoutNeed();
        goodWithoutFlag();
        goodNotWanted();
        falling();
        failed();
        timeStays();
        tries();
        shortsAndNumber();
        logOrder();
        logBlame();
        logFull();
        accounts();
        accountArguments();
        tickRange();
        tickReturns();
        lastTick();
        entryArguments();
        forget();
        end();
    }

    // ---- part 1

    private static void voltageUpAndDown() {
        sentence("The voltage of each rail that is rising or good, and not shorted, goes to its target (up or down), "
                + "by at most its rise;");
        RailSequence x = quick(1000, 400, 300);
        x.set(0, 3, 100);
        x.on(1);
        x.tick(2);
        dueRail(x, 0, RISING, 0, 0, 0, NONE);
        int[] up = {400, 800, 1000, 1000};
        for (int voltage : up) {
            x.tick(1);
            due("rising", voltage, x.rail(0, 11));
        }
        x.set(0, 3, 50);
        x.set(0, 0, 1401);
        int[] further = {1400, 1401, 1401};
        for (int voltage : further) {
            x.tick(1);
            due("good, below its target", voltage, x.rail(0, 11));
        }
        x.set(0, 0, 1000);
        int[] down = {1001, 1000, 1000};
        for (int voltage : down) {
            x.tick(1);
            due("good, above its target", voltage, x.rail(0, 11));
        }
        x.shortCircuit(0, 1);
        x.tick(1);
        due("shorted", 700, x.rail(0, 11));
        x.tick(1);
        due("not shorted any more", 1000, x.rail(0, 11));
        due("good all the time", GOOD, x.rail(0, 10));
        // a rail that rises comes down to its target too
        RailSequence y = quick(500, 500, 1);
        y.setResidue(500);
        y.on(1);
        y.tick(5);
        y.restart(0);
        y.stick(0, 1);
        y.tick(2);
        dueRail(y, 0, RISING, 498, 0, 0, 0);
        y.set(0, 0, 490);
        y.set(0, 1, 7);
        y.tick(1);
        dueRail(y, 0, RISING, 491, 1, 0, 0);
        y.tick(1);
        dueRail(y, 0, RISING, 490, 2, 0, 0);
    }

    private static void voltageToZero() {
        sentence("that of any other rail goes to 0, by at most its fall.");
        RailSequence x = quick(1000, 1000, 300);
        x.on(1);
        x.tick(5);
        x.off(1);
        int[] states = {FALLING, FALLING, FALLING, OFF, OFF, OFF};
        int[] voltages = {1000, 700, 400, 100, 0, 0};
        for (int i = 0; i < states.length; i++) {
            x.tick(1);
            dueRail(x, 0, states[i], voltages[i], 0, 0, NONE);
        }
        // waiting
        RailSequence y = quick(1000, 1000, 300);
        y.on(1);
        y.tick(5);
        y.set(0, 4, 50);
        y.restart(0);
        y.tick(3);
        dueRail(y, 0, WAITING, 100, 0, 0, 0);
        y.tick(1);
        dueRail(y, 0, WAITING, 0, 1, 0, 0);
        // failed, and shorted, which changes nothing there
        RailSequence z = quick(1000, 1000, 300);
        z.on(1);
        z.tick(5);
        z.set(0, 6, 1);
        z.shortCircuit(0, 3);
        int[] down = {700, 400, 100, 0, 0};
        for (int voltage : down) {
            z.tick(1);
            dueRail(z, 0, FAILED, voltage, 0, 1, 0);
        }
        // good and shorted: by its fall, not by its rise
        RailSequence v = quick(1000, 1000, 300);
        v.stick(0, 2);
        v.on(1);
        v.tick(5);
        v.shortCircuit(0, 5);
        int[] good = {700, 400, 100, 0, 0, 1000};
        for (int voltage : good) {
            v.tick(1);
            dueRail(v, 0, GOOD, voltage, 0, 0, NONE);
        }
    }

    // ---- part 2

    private static void statesOfTheBeginning() {
        sentence("each one as if the states of all other rails were those of the beginning of the tick");
        RailSequence x = fourRails();
        x.on(2);
        x.set(1, 4, 1);
        x.tick(3);
        dueRail(x, 0, GOOD, 1000, 0, 0, NONE);
        dueRail(x, 1, WAITING, 0, 0, 0, NONE);
        x.tick(1);
        dueRail(x, 1, WAITING, 0, 1, 0, NONE);
        x.tick(1);
        dueRail(x, 1, RISING, 0, 0, 0, NONE);
        // 1 is off with this tick, so 0 falls with the next one
        RailSequence y = goodChain(2);
        y.off(3);
        y.tick(2);
        dueStates(y, GOOD, FALLING);
        y.tick(1);
        dueStates(y, GOOD, OFF);
        y.tick(1);
        dueStates(y, FALLING, OFF);
        // a need that becomes falling with this tick, whose flag is true still
        RailSequence z = goodChain(3);
        z.stick(1, 2);
        z.stick(0, 1);
        z.tick(1);
        dueStates(z, FALLING, FALLING, GOOD);
        z.tick(1);
        dueStates(z, FALLING, FALLING, FALLING);
    }

    private static void voltagesBehindPartOne() {
        sentence("(voltages and flags are those behind part 1):");
        // the flag is lost by the voltage of this tick: both fall at once
        RailSequence x = goodChain(2);
        x.shortCircuit(0, 1);
        x.tick(1);
        dueRail(x, 0, FALLING, 500, 0, 1, 0);
        dueRail(x, 1, FALLING, 1000, 0, 0, 0);
        // a waiting rail sees the same
        RailSequence y = chain(2);
        y.set(1, 4, 50);
        y.on(3);
        y.tick(5);
        dueRail(y, 1, WAITING, 0, 2, 0, NONE);
        y.shortCircuit(0, 1);
        y.tick(1);
        dueRail(y, 1, WAITING, 0, 0, 0, NONE);
        // a user that is discharged by this tick's fall
        RailSequence z = goodChain(2);
        z.setResidue(500);
        z.set(1, 2, 250);
        z.off(3);
        z.tick(3);
        dueRail(z, 1, OFF, 500, 0, 0, NONE);
        z.setResidue(249);
        z.tick(1);
        dueRail(z, 1, OFF, 250, 0, 0, NONE);
        dueRail(z, 0, GOOD, 1000, 0, 0, NONE);
        z.tick(1);
        dueRail(z, 1, OFF, 0, 0, 0, NONE);
        dueRail(z, 0, FALLING, 1000, 0, 0, NONE);
    }

    private static void off() {
        sentence("- Off: if it is wanted, it becomes waiting, with the time 0 and the failures 0.");
        RailSequence x = quick(1000, 400, 300);
        x.set(0, 5, 2);
        x.on(1);
        x.tick(30);
        dueRail(x, 0, FAILED, 0, 2, 2, 0);
        x.off(1);
        x.tick(5);
        dueRail(x, 0, OFF, 0, 2, 2, 0);
        x.on(1);
        dueRail(x, 0, OFF, 0, 2, 2, 0);
        due("changes", 1, x.tick(1));
        dueRail(x, 0, WAITING, 0, 0, 0, 0);
        // also above the residue, and without what it needs
        RailSequence y = goodChain(2);
        y.setResidue(500);
        y.off(2);
        y.tick(2);
        dueRail(y, 1, OFF, 500, 0, 0, NONE);
        y.setResidue(0);
        y.set(1, 2, 1);
        y.stick(0, 1);
        y.on(2);
        y.tick(1);
        dueRail(y, 1, WAITING, 499, 0, 0, NONE);
    }

    private static void waitingNotWanted() {
        sentence("- Waiting: if it is not wanted, it becomes off.");
        RailSequence x = quick(1000, 1000, 500);
        x.on(1);
        x.tick(1);
        x.off(1);
        x.tick(1);
        dueRail(x, 0, OFF, 0, 0, 0, NONE);
        RailSequence y = oneRail();
        y.on(1);
        y.tick(3);
        dueRail(y, 0, WAITING, 0, 2, 0, NONE);
        y.off(1);
        y.tick(1);
        dueRail(y, 0, OFF, 0, 2, 0, NONE);
        // also above the residue, where its time would become 0
        RailSequence z = quick(100, 100, 1);
        z.on(1);
        z.tick(5);
        z.set(0, 4, 50);
        z.restart(0);
        z.tick(4);
        dueRail(z, 0, WAITING, 96, 3, 0, 0);
        z.setResidue(0);
        z.off(1);
        z.tick(1);
        dueRail(z, 0, OFF, 95, 3, 0, 0);
    }

    private static void waitingOnNeeds() {
        sentence("Otherwise, if it is discharged, and all rails that it needs are in the state good and have true "
                + "flags, its time increases by 1,");
        RailSequence x = waitingOnTwo();
        x.tick(1);
        dueRail(x, 2, WAITING, 0, 6, 0, NONE);
        // a true flag is enough, without a voltage, and whether the need is wanted or not
        x.stick(0, 2);
        x.shortCircuit(0, 9);
        x.tick(4);
        due("voltage of 0", 0, x.rail(0, 11));
        dueRail(x, 2, WAITING, 0, 10, 0, NONE);
        // without needs; and discharged at the residue just so
        RailSequence y = quick(100, 100, 1);
        y.on(1);
        y.tick(5);
        y.set(0, 4, 50);
        y.restart(0);
        y.tick(1);
        dueRail(y, 0, WAITING, 99, 0, 0, 0);
        y.setResidue(98);
        y.tick(1);
        dueRail(y, 0, WAITING, 98, 1, 0, 0);
        y.setResidue(96);
        y.tick(1);
        dueRail(y, 0, WAITING, 97, 0, 0, 0);
    }

    private static void waitingForTheDelay() {
        sentence("and if the time is greater than the delay then, it becomes rising with the time 0.");
        for (int delay : new int[] {0, 1, 2, 49, 50}) {
            RailSequence x = oneRail();
            x.set(0, 4, delay);
            x.on(1);
            x.tick(1);
            for (int time = 1; time <= delay; time++) {
                x.tick(1);
                dueRail(x, 0, WAITING, 0, time, 0, NONE);
            }
            x.tick(1);
            dueRail(x, 0, RISING, 0, 0, 0, NONE);
        }
        // the delay then
        RailSequence y = oneRail();
        y.set(0, 4, 50);
        y.on(1);
        y.tick(11);
        dueRail(y, 0, WAITING, 0, 10, 0, NONE);
        y.set(0, 4, 11);
        y.tick(1);
        dueRail(y, 0, WAITING, 0, 11, 0, NONE);
        y.set(0, 4, 5);
        y.tick(1);
        dueRail(y, 0, RISING, 0, 0, 0, NONE);
    }

    private static void waitingSetBack() {
        sentence("If one of these does not hold, its time becomes 0.");
        // discharged: at most the residue
        RailSequence x = quick(100, 100, 1);
        x.on(1);
        x.tick(5);
        x.set(0, 4, 50);
        x.restart(0);
        x.tick(4);
        dueRail(x, 0, WAITING, 96, 3, 0, 0);
        x.setResidue(95);
        x.tick(1);
        dueRail(x, 0, WAITING, 95, 4, 0, 0);
        x.setResidue(93);
        x.tick(1);
        dueRail(x, 0, WAITING, 94, 0, 0, 0);
        x.tick(1);
        dueRail(x, 0, WAITING, 93, 1, 0, 0);
        // the state of a need: 0 falls with a flag stuck at true
        RailSequence y = waitingOnTwo();
        y.stick(0, 2);
        y.restart(0);
        y.on(4);
        y.tick(1);
        dueRail(y, 2, WAITING, 0, 0, 0, NONE);
        // the flag of a need that is good at the beginning of the tick
        RailSequence z = waitingOnTwo();
        z.stick(0, 1);
        z.tick(1);
        dueRail(z, 2, WAITING, 0, 0, 0, NONE);
        // all rails that it needs: the higher one alone is not as it should
        RailSequence v = waitingOnTwo();
        v.stick(1, 1);
        v.tick(1);
        dueRail(v, 2, WAITING, 0, 0, 0, NONE);
        // the rails that it does not need do not matter, nor those that its needs need
        RailSequence w = chain(3);
        w.addRail(100, 1, 1, 0);
        w.set(2, 4, 50);
        w.on(7);
        w.tick(10);
        int time = w.rail(2, 15);
        w.stick(0, 1);
        w.tick(1);
        dueRail(w, 2, WAITING, 0, time + 1, 0, NONE);
        w.tick(1);
        dueRail(w, 2, WAITING, 0, 0, 0, NONE);
    }

    /** 2 waits for 0 and 1, which are good, and has the time 5. */
    private static RailSequence waitingOnTwo() {
        RailSequence x = new RailSequence();
        x.addRail(1000, 1000, 500, 0);
        x.addRail(1000, 1000, 500, 0);
        x.addRail(1000, 1000, 500, 3);
        x.set(2, 4, 50);
        x.on(4);
        x.tick(10);
        dueRail(x, 2, WAITING, 0, 5, 0, NONE);
        return x;
    }

    private static void risingNotWanted() {
        sentence("- Rising: if it is not wanted, it becomes falling, and its blame becomes NONE.");
        // ahead of a need without flag, ahead of the own flag, and ahead of the patience
        RailSequence x = chain(2);
        x.set(1, 5, 1);
        x.stick(1, 1);
        x.on(3);
        x.tick(5);
        dueRail(x, 1, FALLING, 1000, 1, 1, 1);
        x.tick(3);
        dueRail(x, 1, RISING, 0, 0, 1, 1);
        x.off(2);
        x.stick(0, 1);
        x.tick(1);
        dueRail(x, 1, FALLING, 1000, 0, 1, NONE);
        RailSequence y = quick(1000, 1000, 500);
        y.stick(0, 2);
        y.on(1);
        y.tick(2);
        y.off(1);
        y.tick(1);
        dueRail(y, 0, FALLING, 1000, 0, 0, NONE);
        RailSequence z = quick(1000, 400, 300);
        z.set(0, 5, 1);
        z.on(1);
        z.tick(2);
        z.off(1);
        z.tick(1);
        dueRail(z, 0, FALLING, 400, 0, 0, NONE);
        dueAccounts(z, 0, 1, 0, 0, 0);
    }

    private static void risingWithoutNeed() {
        sentence("Otherwise, if a rail that it needs is not in the state good, or has a false flag, it becomes "
                + "falling, and its blame becomes this rail (of several the lowest one).");
        // a false flag; ahead of the own flag and of the patience; no failure
        RailSequence x = chain(2);
        x.set(1, 5, 1);
        x.on(3);
        x.tick(4);
        dueRail(x, 1, RISING, 0, 0, 0, NONE);
        x.stick(0, 1);
        x.tick(1);
        dueRail(x, 1, FALLING, 1000, 0, 0, 0);
        dueAccounts(x, 1, 1, 0, 0, 0);
        RailSequence y = chain(2);
        y.set(1, 1, 1);
        y.set(1, 5, 1);
        y.on(3);
        y.tick(4);
        y.stick(0, 1);
        y.tick(1);
        dueRail(y, 1, FALLING, 1, 0, 0, 0);
        // a true flag, but not good
        RailSequence z = chain(3);
        z.on(7);
        z.set(2, 1, 1);
        z.tick(7);
        z.stick(1, 2);
        z.stick(0, 1);
        z.tick(1);
        dueStates(z, FALLING, FALLING, RISING);
        z.tick(1);
        dueRail(z, 2, FALLING, 3, 2, 0, 1);
        blameOfSeveral(1, RISING);
    }

    private static void risingToGood() {
        sentence("Otherwise, if its flag is true, it becomes good, and its blame becomes NONE.");
        // with the last tick of its patience, and just at the flag's edge
        RailSequence x = quick(1000, 450, 500);
        x.set(0, 5, 2);
        x.on(1);
        x.tick(3);
        dueRail(x, 0, RISING, 450, 1, 0, NONE);
        x.tick(1);
        dueRail(x, 0, GOOD, 900, 1, 0, NONE);
        RailSequence y = quick(1000, 449, 500);
        y.set(0, 5, 2);
        y.on(1);
        y.tick(4);
        dueRail(y, 0, FALLING, 898, 2, 1, 0);
        // patience 1, and a blame from before; the failures stay
        RailSequence z = quick(1000, 1000, 500);
        z.set(0, 5, 1);
        z.stick(0, 1);
        z.on(1);
        z.tick(3);
        dueRail(z, 0, FALLING, 1000, 1, 1, 0);
        z.stick(0, 0);
        z.tick(3);
        dueRail(z, 0, RISING, 0, 0, 1, 0);
        z.tick(1);
        dueRail(z, 0, GOOD, 1000, 0, 1, NONE);
    }

    private static void risingOutOfPatience() {
        sentence("Otherwise its time increases by 1; if the time is at least the patience then, it has a failure, "
                + "and its blame becomes itself.");
        for (int patience : new int[] {1, 2, 40, 199, 200}) {
            RailSequence x = quick(5000, 1, 1000);
            x.set(0, 5, patience);
            x.on(1);
            x.tick(2);
            for (int time = 1; time < patience; time++) {
                x.tick(1);
                due("state at " + time + " of " + patience, RISING, x.rail(0, 10));
                due("time", time, x.rail(0, 15));
            }
            x.tick(1);
            dueRail(x, 0, FALLING, patience, patience, 1, 0);
            dueAccounts(x, 0, 1, 0, 1, 0);
        }
        // the patience then
        RailSequence y = quick(5000, 1, 1000);
        y.on(1);
        y.tick(12);
        dueRail(y, 0, RISING, 10, 10, 0, NONE);
        y.set(0, 5, 12);
        y.tick(1);
        dueRail(y, 0, RISING, 11, 11, 0, NONE);
        y.set(0, 5, 1);
        y.tick(1);
        dueRail(y, 0, FALLING, 12, 12, 1, 0);
    }

    private static void goodWithoutNeed() {
        sentence("- Good: if a rail that it needs is not in the state good, or has a false flag, it becomes falling, "
                + "and its blame becomes this rail (of several the lowest one).");
        // ahead of the own flag: no failure; and ahead of being switched off
        RailSequence x = goodChain(2);
        x.stick(0, 1);
        x.stick(1, 1);
        x.tick(1);
        dueRail(x, 1, FALLING, 1000, 0, 0, 0);
        due("failures in all", 0, x.account(1, 2));
        RailSequence y = goodChain(2);
        y.off(2);
        y.stick(0, 1);
        y.tick(1);
        dueRail(y, 1, FALLING, 1000, 0, 0, 0);
        // a true flag, but not good
        RailSequence z = goodChain(3);
        z.stick(1, 2);
        z.stick(0, 1);
        z.tick(2);
        dueRail(z, 2, FALLING, 1000, 0, 0, 1);
        blameOfSeveral(2, GOOD);
    }

    /** 2 has come to the state with these ticks behind its waiting; of its needs the lowest bad one is blamed. */
    private static void blameOfSeveral(int ticks, int state) {
        RailSequence x = waitingOnTwo();
        x.set(2, 4, 0);
        x.tick(ticks);
        due("state of 2", state, x.rail(2, 10));
        x.stick(1, 1);
        x.tick(1);
        dueRail(x, 2, FALLING, 1000, 0, 0, 1);
        x.undo();
        x.stick(0, 1);
        x.tick(1);
        dueRail(x, 2, FALLING, 1000, 0, 0, 0);
    }

    private static void goodWithoutFlag() {
        sentence("Otherwise, if its flag is false, it has a failure, and its blame becomes itself.");
        RailSequence x = quick(1000, 1000, 101);
        x.on(1);
        x.tick(5);
        x.shortCircuit(0, 1);
        x.tick(1);
        dueRail(x, 0, FALLING, 899, 0, 1, 0);
        RailSequence y = quick(1000, 1000, 100);
        y.on(1);
        y.tick(5);
        y.shortCircuit(0, 1);
        y.tick(1);
        dueRail(y, 0, GOOD, 900, 0, 0, NONE);
        // ahead of being switched off
        RailSequence z = quick(1000, 1000, 500);
        z.on(1);
        z.tick(5);
        z.stick(0, 1);
        z.off(1);
        z.tick(1);
        dueRail(z, 0, FALLING, 1000, 0, 1, 0);
        // a flag stuck at true holds a shorted rail
        RailSequence v = quick(1000, 1000, 1000);
        v.stick(0, 2);
        v.on(1);
        v.tick(5);
        v.shortCircuit(0, 500);
        v.tick(200);
        dueRail(v, 0, GOOD, 0, 0, 0, NONE);
    }

    private static void goodNotWanted() {
        sentence("Otherwise, if it is not wanted, and all its users are discharged and in one of the states off "
                + "and failed, it becomes falling, and its blame becomes NONE.");
        RailSequence alone = quick(1000, 1000, 500);
        alone.on(1);
        alone.tick(5);
        alone.tick(5);
        dueRail(alone, 0, GOOD, 1000, 0, 0, NONE);
        alone.off(1);
        alone.tick(1);
        dueRail(alone, 0, FALLING, 1000, 0, 0, NONE);

        // a user that is good, falling, waiting or rising holds it
        RailSequence x = goodChain(2);
        x.off(3);
        x.tick(1);
        dueStates(x, GOOD, FALLING);
        x.tick(1);
        dueStates(x, GOOD, FALLING);
        x.tick(1);
        dueStates(x, GOOD, OFF);
        x.tick(1);
        dueStates(x, FALLING, OFF);
        RailSequence waiting = chain(2);
        waiting.set(1, 4, 50);
        waiting.on(3);
        waiting.tick(6);
        waiting.off(3);
        waiting.tick(1);
        dueStates(waiting, GOOD, OFF);
        waiting.tick(1);
        dueStates(waiting, FALLING, OFF);
        RailSequence rising = chain(2);
        rising.set(1, 1, 1);
        rising.on(3);
        rising.tick(6);
        dueStates(rising, GOOD, RISING);
        rising.off(3);
        rising.tick(1);
        dueStates(rising, GOOD, FALLING);
        rising.tick(1);
        dueStates(rising, GOOD, OFF);
        rising.tick(1);
        dueStates(rising, FALLING, OFF);
        usersThatAreOut();
        usersOfUsers();
        wantedStays();
    }

    private static void usersThatAreOut() {
        // off above the residue, and at it
        RailSequence x = goodChain(2);
        x.setResidue(500);
        x.off(3);
        x.tick(2);
        dueRail(x, 1, OFF, 500, 0, 0, NONE);
        x.set(1, 2, 100);
        x.setResidue(300);
        x.tick(1);
        dueRail(x, 1, OFF, 400, 0, 0, NONE);
        dueStates(x, GOOD, OFF);
        x.tick(1);
        dueRail(x, 1, OFF, 300, 0, 0, NONE);
        dueStates(x, FALLING, OFF);
        // failed above the residue, and at it
        RailSequence y = goodChain(2);
        y.set(1, 2, 300);
        y.set(1, 6, 1);
        y.stick(1, 1);
        y.tick(1);
        y.off(1);
        dueStates(y, GOOD, FAILED);
        y.tick(2);
        dueRail(y, 1, FAILED, 400, 0, 1, 1);
        dueStates(y, GOOD, FAILED);
        y.tick(1);
        dueRail(y, 1, OFF, 100, 0, 1, 1);
        dueStates(y, FALLING, OFF);
        // of two users one alone is out
        RailSequence z = fourGoodRails();
        z.set(2, 2, 100);
        z.off(15);
        z.tick(5);
        dueStates(z, GOOD, FALLING, FALLING, OFF);
        z.tick(3);
        dueStates(z, GOOD, OFF, FALLING, OFF);
        z.tick(2);
        dueRail(z, 2, OFF, 100, 0, 0, NONE);
        dueStates(z, GOOD, OFF, OFF, OFF);
        z.tick(1);
        dueStates(z, FALLING, OFF, OFF, OFF);
    }

    private static void usersOfUsers() {
        // 1 has failed and is discharged, 2 falls still
        RailSequence x = goodChain(3);
        x.set(2, 2, 1);
        x.set(1, 6, 1);
        x.stick(1, 1);
        x.tick(4);
        x.off(1);
        x.tick(1);
        dueStates(x, FALLING, OFF, FALLING);
    }

    private static void wantedStays() {
        RailSequence x = goodChain(2);
        x.off(2);
        x.tick(20);
        dueStates(x, GOOD, OFF);
        // wanted again before it falls
        RailSequence y = goodChain(2);
        y.off(3);
        y.tick(3);
        y.on(1);
        y.tick(1);
        dueStates(y, GOOD, OFF);
    }

    private static void falling() {
        sentence("- Falling: if it is discharged, it becomes waiting with the time 0, if it is wanted, otherwise off.");
        RailSequence x = oneRail();
        x.on(1);
        x.tick(7);
        x.restart(0);
        x.set(0, 2, 899);
        x.tick(1);
        dueRail(x, 0, FALLING, 101, 2, 0, 0);
        x.set(0, 2, 1);
        x.tick(1);
        dueRail(x, 0, WAITING, 100, 0, 0, 0);
        RailSequence y = oneRail();
        y.on(1);
        y.tick(7);
        y.off(1);
        y.set(0, 2, 899);
        y.tick(2);
        dueRail(y, 0, FALLING, 101, 2, 0, NONE);
        y.set(0, 2, 1);
        y.tick(1);
        dueRail(y, 0, OFF, 100, 2, 0, NONE);
        // one that is wanted again while it falls
        RailSequence z = oneRail();
        z.on(1);
        z.tick(7);
        z.off(1);
        z.tick(2);
        z.on(1);
        z.tick(1);
        dueRail(z, 0, FALLING, 400, 2, 0, NONE);
        z.tick(1);
        dueRail(z, 0, WAITING, 100, 0, 0, NONE);
    }

    private static void failed() {
        sentence("- Failed: if it is not wanted, and discharged, it becomes off.");
        RailSequence x = oneRail();
        x.set(0, 6, 1);
        x.on(1);
        x.tick(7);
        x.stick(0, 1);
        x.tick(1);
        dueRail(x, 0, FAILED, 1000, 2, 1, 0);
        x.set(0, 2, 899);
        x.off(1);
        x.tick(1);
        dueRail(x, 0, FAILED, 101, 2, 1, 0);
        x.set(0, 2, 1);
        x.on(1);
        x.tick(1);
        dueRail(x, 0, FAILED, 100, 2, 1, 0);
        x.off(1);
        x.tick(1);
        dueRail(x, 0, OFF, 99, 2, 1, 0);
        x.undo();
        x.setResidue(98);
        x.tick(1);
        dueRail(x, 0, FAILED, 99, 2, 1, 0);
        x.tick(1);
        dueRail(x, 0, OFF, 98, 2, 1, 0);
    }

    private static void timeStays() {
        sentence("(Where no time is told, it stays as it was, also of a rail that becomes good, falling, failed "
                + "or off.)");
        RailSequence x = oneRail();
        x.on(1);
        x.tick(7);
        dueRail(x, 0, GOOD, 1000, 2, 0, NONE);
        x.tick(50);
        dueRail(x, 0, GOOD, 1000, 2, 0, NONE);
        x.off(1);
        x.tick(1);
        dueRail(x, 0, FALLING, 1000, 2, 0, NONE);
        x.tick(3);
        dueRail(x, 0, OFF, 100, 2, 0, NONE);
        x.tick(50);
        dueRail(x, 0, OFF, 0, 2, 0, NONE);
        RailSequence y = oneRail();
        y.set(0, 6, 1);
        y.set(0, 5, 2);
        y.on(1);
        y.tick(6);
        dueRail(y, 0, FAILED, 800, 2, 1, 0);
        y.tick(50);
        dueRail(y, 0, FAILED, 0, 2, 1, 0);
        y.off(1);
        y.tick(1);
        dueRail(y, 0, OFF, 0, 2, 1, 0);
        // rising to falling, not wanted and without its need; and falling by a restart
        RailSequence z = chain(2);
        z.set(1, 1, 1);
        z.on(3);
        z.tick(10);
        dueRail(z, 1, RISING, 6, 6, 0, NONE);
        z.stick(0, 1);
        z.tick(1);
        dueRail(z, 1, FALLING, 7, 6, 0, 0);
        z.undo();
        z.off(2);
        z.tick(1);
        dueRail(z, 1, FALLING, 7, 6, 0, NONE);
        z.undo();
        z.undo();
        z.restart(1);
        dueRail(z, 1, FALLING, 6, 6, 0, 1);
    }

    private static void tries() {
        sentence("A failure increases the count of failures by 1; if it is at least as many as the tries then, "
                + "the rail becomes failed, otherwise falling.");
        for (int tries = 1; tries <= 4; tries++) {
            RailSequence x = quick(1000, 1, 1000);
            x.set(0, 5, 1);
            x.set(0, 6, tries);
            x.on(1);
            x.tick(2);
            for (int failure = 1; failure < tries; failure++) {
                x.tick(1);
                dueRail(x, 0, FALLING, 1, 1, failure, 0);
                x.tick(2);
                dueRail(x, 0, RISING, 0, 0, failure, 0);
            }
            x.tick(1);
            dueRail(x, 0, FAILED, 1, 1, tries, 0);
            dueAccounts(x, 0, tries, 0, tries, 0);
        }
        // the tries then
        RailSequence y = quick(1000, 1, 1000);
        y.set(0, 5, 1);
        y.set(0, 6, 4);
        y.on(1);
        y.tick(8);
        dueRail(y, 0, RISING, 0, 0, 2, 0);
        y.set(0, 6, 1);
        y.tick(1);
        dueRail(y, 0, FAILED, 1, 1, 3, 0);
        // also of a rail that is good, whose failures stay while it is
        RailSequence z = quick(1000, 1000, 1000);
        z.on(1);
        z.tick(3);
        z.shortCircuit(0, 1);
        z.tick(1);
        dueRail(z, 0, FALLING, 0, 0, 1, 0);
        z.tick(10);
        dueRail(z, 0, GOOD, 1000, 0, 1, NONE);
        z.shortCircuit(0, 1);
        z.tick(1);
        dueRail(z, 0, FAILED, 0, 0, 2, 0);
    }

    // ---- part 3, the log and the accounts

    private static void shortsAndNumber() {
        sentence("3. The ticks of shorts decrease by 1 (if above 0), and the number of the tick increases by 1 "
                + "(at first it is 0).");
        RailSequence x = oneRail();
        x.addRail(1000, 400, 300, 0);
        x.shortCircuit(0, 1);
        x.shortCircuit(1, 2);
        int[] shorts = {1, 0, 0, 0};
        for (int i = 0; i < 4; i++) {
            due("number of the tick", i, x.count(1));
            x.tick(1);
            due("short of 0", 0, x.rail(0, 14));
            due("short of 1", shorts[i], x.rail(1, 14));
        }
        x.shortCircuit(0, 500);
        x.tick(200);
        x.tick(200);
        x.tick(99);
        due("the last one of 500", 1, x.rail(0, 14));
        x.tick(1);
        due("over", 0, x.rail(0, 14));
        due("number of the tick", 504, x.count(1));
    }

    private static void logOrder() {
        sentence("Each change of a state is entered into the log: the number of the tick, the rail, the new state "
                + "and the blame then; those of one tick in ascending order of the rails.");
        RailSequence x = new RailSequence();
        for (int r = 0; r < 8; r++) {
            x.addRail(1000, 1000, 500, 0);
        }
        x.tick(3);
        due("entries without a change", 0, x.count(6));
        x.on(255);
        due("entries of on", 0, x.count(6));
        x.tick(1);
        due("entries", 8, x.count(6));
        for (int back = 0; back < 8; back++) {
            dueEntry(x, back, 3, 7 - back, WAITING, NONE);
        }
        dueEntry(x, 8, NONE, NONE, NONE, NONE);
        // those of one call of tick have each the number of its own tick
        RailSequence y = oneRail();
        y.on(1);
        y.tick(10);
        y.off(1);
        y.tick(10);
        dueEntry(y, 0, 13, 0, OFF, NONE);
        dueEntry(y, 1, 10, 0, FALLING, NONE);
        dueEntry(y, 2, 6, 0, GOOD, NONE);
        dueEntry(y, 3, 3, 0, RISING, NONE);
        dueEntry(y, 4, 0, 0, WAITING, NONE);
    }

    private static void logBlame() {
        sentence("and the blame then;");
        RailSequence x = goodChain(2);
        x.set(0, 6, 4);
        x.stick(0, 1);
        x.tick(1);
        x.stick(0, 0);
        dueEntry(x, 0, 30, 1, FALLING, 0);
        dueEntry(x, 1, 30, 0, FALLING, 0);
        x.tick(4);
        // 0 is good again, with the blame NONE; the entries from before have theirs still
        dueEntry(x, 0, 34, 0, GOOD, NONE);
        dueEntry(x, 1, 33, 0, RISING, 0);
        dueEntry(x, 2, 32, 1, WAITING, 0);
        dueEntry(x, 3, 32, 0, WAITING, 0);
        dueEntry(x, 4, 30, 1, FALLING, 0);
        dueEntry(x, 5, 30, 0, FALLING, 0);
        x.tick(2);
        dueEntry(x, 0, 36, 1, GOOD, NONE);
        dueEntry(x, 1, 35, 1, RISING, 0);
    }

    private static void logFull() {
        sentence("The log keeps the latest 16 entries.");
        RailSequence x = new RailSequence();
        for (int r = 0; r < 8; r++) {
            x.addRail(1000, 1000, 500, 0);
            x.set(r, 4, 0);
        }
        x.set(3, 4, 1);
        x.on(255);
        x.tick(2);
        due("entries", 15, x.count(6));
        dueEntry(x, 14, 0, 0, WAITING, NONE);
        dueEntry(x, 15, NONE, NONE, NONE, NONE);
        x.restart(0);
        due("entries", 16, x.count(6));
        dueEntry(x, 0, 2, 0, FALLING, 0);
        dueEntry(x, 15, 0, 0, WAITING, NONE);
        x.restart(1);
        due("entries", 16, x.count(6));
        dueEntry(x, 0, 2, 1, FALLING, 1);
        dueEntry(x, 1, 2, 0, FALLING, 0);
        dueEntry(x, 2, 1, 7, RISING, NONE);
        dueEntry(x, 15, 0, 1, WAITING, NONE);
        // more than 16 in one call
        x.tick(50);
        due("entries", 16, x.count(6));
    }

    private static void accounts() {
        sentence("and the ticks behind which it is in the state good.");
        RailSequence x = quick(1000, 1000, 1000);
        x.on(1);
        x.tick(1);
        dueAccounts(x, 0, 0, 0, 0, 0);
        x.tick(1);
        dueAccounts(x, 0, 1, 0, 0, 0);
        x.tick(1);
        dueAccounts(x, 0, 1, 1, 0, 1);
        x.tick(1);
        dueAccounts(x, 0, 1, 1, 0, 2);
        x.stick(0, 1);
        x.tick(1);
        dueAccounts(x, 0, 1, 1, 1, 2);
        x.tick(2);
        dueAccounts(x, 0, 2, 1, 1, 2);
        x.tick(200);
        // out of its tries by the patience: a second failure
        dueAccounts(x, 0, 2, 1, 2, 2);
        // neither a restart nor being switched on anew takes any of it back
        x.stick(0, 0);
        x.restart(0);
        dueAccounts(x, 0, 2, 1, 2, 2);
        x.off(1);
        x.tick(10);
        x.on(1);
        x.tick(3);
        due("failures", 0, x.rail(0, 16));
        dueAccounts(x, 0, 3, 2, 2, 3);
        // a rail that falls by its need's fault has no failure
        RailSequence y = goodChain(2);
        y.stick(0, 1);
        y.tick(1);
        due("failures of 0", 1, y.account(0, 2));
        due("failures of 1", 0, y.account(1, 2));
    }

    private static void accountArguments() {
        sentence("- `what`: 0: how often it became rising; 1: how often it became good; 2: its failures in all; "
                + "3: the ticks behind which it was good");
        RailSequence used = quick(1000, 1000, 1000);
        used.set(0, 6, 4);
        used.on(1);
        for (int i = 0; i < 3; i++) {
            used.tick(7);
            used.shortCircuit(0, 1);
            used.tick(1);
        }
        used.tick(2);
        dueAccounts(used, 0, 4, 3, 3, 15);
        sentence("Throws `IllegalArgumentException` if what is not 0 to 3");
        RailSequence x = chain(8);
        for (int what : new int[] {-1, 4, Integer.MIN_VALUE, Integer.MAX_VALUE}) {
            refuses("account " + what, ARGUMENT, x, () -> x.account(7, what));
            refuses("account " + what + " of no rail", INDEX, x, () -> x.account(8, what));
        }
        for (int rail : new int[] {-1, 8, Integer.MIN_VALUE, Integer.MAX_VALUE}) {
            refuses("account of " + rail, INDEX, x, () -> x.account(rail, 0));
        }
        dueAccounts(x, 7, 0, 0, 0, 0);
    }

    // ---- the calls

    private static void tickRange() {
        sentence("- `ticks`: 1 to 200");
        RailSequence x = oneRail();
        x.tick(1);
        due("number", 1, x.count(1));
        x.tick(200);
        due("number", 201, x.count(1));
        sentence("Throws `IllegalArgumentException` if ticks is out of range");
        for (int ticks : new int[] {0, -1, 201, Integer.MIN_VALUE, Integer.MAX_VALUE}) {
            refuses("ticks " + ticks, ARGUMENT, x, () -> x.tick(ticks));
        }
        sentence("Lets ticks pass. Undoable, as one call.");
        undoable("200 ticks", x, () -> x.tick(200));
        x.on(1);
        int saved = x.count(8);
        undoable("200 ticks with changes", x, () -> x.tick(200));
        due("saved states", saved, x.count(8));
    }

    private static void tickReturns() {
        sentence("Returns how many changes of states there were in them.");
        RailSequence x = oneRail();
        due("none", 0, x.tick(200));
        x.on(1);
        due("waiting, rising, good", 3, x.tick(200));
        // all 8 rails at once, up and down again
        RailSequence y = new RailSequence();
        for (int r = 0; r < 8; r++) {
            y.addRail(1000, 1000, 500, 0);
        }
        y.on(255);
        due("8 waiting", 8, y.tick(1));
        due("8 rising and good", 16, y.tick(199));
        y.off(255);
        due("8 falling and off", 16, y.tick(200));
    }

    private static void lastTick() {
        sentence("Throws `IllegalStateException` if the number of the tick would be above 20000");
        RailSequence x = oneRail();
        for (int i = 0; i < 99; i++) {
            x.tick(200);
        }
        due("number", 19800, x.count(1));
        x.tick(1);
        refuses("20001", STATE, x, () -> x.tick(200));
        x.tick(198);
        due("number", 19999, x.count(1));
        refuses("20001", STATE, x, () -> x.tick(2));
        due("the last one", 0, x.tick(1));
        due("number", 20000, x.count(1));
        refuses("20001", STATE, x, () -> x.tick(1));
        refuses("20200", STATE, x, () -> x.tick(200));
        refuses("0 ticks", ARGUMENT, x, () -> x.tick(0));
        refuses("201 ticks", ARGUMENT, x, () -> x.tick(201));
        x.undo();
        x.undo();
        due("200 to the last one", 0, x.tick(199));
        due("number", 20000, x.count(1));
        // what would be is told as before
        x.on(1);
        due("would change", 0, x.count(9));
        due("would be good", 7, x.allGoodIn());
        due("would be good behind a short", 1, x.ifShort(0, 1, 1));
        due("would fall by a long one", 1, x.ifShort(0, 500, 0));
    }

    private static void entryArguments() {
        sentence("- `back`: 0 for the latest one, 1 for the one before, and so on");
        RailSequence x = oneRail();
        x.on(1);
        x.tick(10);
        dueEntry(x, 0, 6, 0, GOOD, NONE);
        dueEntry(x, 1, 3, 0, RISING, NONE);
        dueEntry(x, 2, 0, 0, WAITING, NONE);
        sentence("- `what`: 0: number of the tick; 1: rail; 2: new state; 3: blame");
        due("number of the tick", 6, x.entry(0, 0));
        due("rail", 0, x.entry(0, 1));
        due("new state", GOOD, x.entry(0, 2));
        due("blame", NONE, x.entry(0, 3));
        sentence("Returns the number; NONE if there is no such entry.");
        for (int back = 3; back < 16; back++) {
            dueEntry(x, back, NONE, NONE, NONE, NONE);
        }
        sentence("Throws `IllegalArgumentException` if back is not 0 to 15, or what is not 0 to 3");
        for (int back : new int[] {-1, 16, Integer.MIN_VALUE, Integer.MAX_VALUE}) {
            refuses("back " + back, ARGUMENT, x, () -> x.entry(back, 0));
        }
        for (int what : new int[] {-1, 4, Integer.MIN_VALUE, Integer.MAX_VALUE}) {
            refuses("what " + what, ARGUMENT, x, () -> x.entry(0, what));
            refuses("what " + what + " of no entry", ARGUMENT, x, () -> x.entry(15, what));
        }
        due("what 3 of no entry", NONE, x.entry(15, 3));
    }

    private static void forget() {
        sentence("Removes the entries of a rail from the log. Undoable.");
        RailSequence x = fourGoodRails();
        due("entries", 12, x.count(6));
        undoable("forget", x, () -> x.forget(0));
        due("those of 0, the oldest ones too", 3, x.forget(0));
        due("entries", 9, x.count(6));
        dueEntry(x, 8, 0, 1, WAITING, NONE);
        dueEntry(x, 9, NONE, NONE, NONE, NONE);
        due("those of 3, the latest ones too", 3, x.forget(3));
        dueEntry(x, 0, 4, 2, GOOD, NONE);
        dueEntry(x, 5, 0, 1, WAITING, NONE);
        dueEntry(x, 6, NONE, NONE, NONE, NONE);
        sentence("Returns how many are removed.");
        due("none", 0, x.forget(3));
        undoable("forget of none", x, () -> x.forget(3));
        // a full log of one rail: all are removed, and the next entry is the only one
        RailSequence y = quick(1000, 1, 1000);
        y.set(0, 5, 1);
        y.set(0, 6, 4);
        y.on(1);
        for (int i = 0; i < 3; i++) {
            y.tick(20);
            y.restart(0);
        }
        due("entries", 16, y.count(6));
        due("all", 16, y.forget(0));
        due("entries", 0, y.count(6));
        dueEntry(y, 0, NONE, NONE, NONE, NONE);
        y.tick(1);
        due("entries", 1, y.count(6));
        dueEntry(y, 0, 60, 0, WAITING, 0);
        dueEntry(y, 1, NONE, NONE, NONE, NONE);
        for (int rail : new int[] {-1, 1, 8, Integer.MIN_VALUE, Integer.MAX_VALUE}) {
            refuses("forget of " + rail, INDEX, y, () -> y.forget(rail));
        }
    }
}
