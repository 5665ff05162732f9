/** For each promise of the document: ordinary inputs, the edges, and wrong inputs. */
public final class PromiseTest extends Check {
    public static void main(String[] args) {
        newObject();
        addRail();
        set();
        setNeeds();
        setResidue();
        on();
        off();
        restart();
        shortCircuit();
        stick();
        tick();
        tickOfManyRails();
        append();
        clearBuffer();
        firstError();
        load();
        undo();
        rail();
        account();
        entry();
        forget();
        count();
        allGoodIn();
        allOffIn();
        ifShort();
        leastPatience();
        goodShare();
        digest();
        end();
    }

    // ---- the promises

    private static void newObject() {
        about("promise 1");
        RailSequence x = new RailSequence();
        for (int what = 0; what < 9; what++) {
            due("count(" + what + ")", what == 2 ? 100 : 0, x.count(what));
        }
        due("count(9)", 1, x.count(9));
        for (int back = 0; back < 16; back++) {
            dueEntry(x, back, NONE, NONE, NONE, NONE);
        }
        due("firstError", 0, x.firstError());
        due("clearBuffer", 0, x.clearBuffer());
        due("NONE", -1, NONE);
        refuses("rail(0, 0)", INDEX, x, () -> x.rail(0, 0));
        RailSequence y = new RailSequence();
        x.addRail(100, 1, 1, 0);
        due("rails of another object", 0, y.count(0));
    }

    private static void addRail() {
        about("promise 2");
        RailSequence x = new RailSequence();
        refuses("target 99", ARGUMENT, x, () -> x.addRail(99, 1, 1, 0));
        refuses("target 5001", ARGUMENT, x, () -> x.addRail(5001, 1, 1, 0));
        refuses("rise 0", ARGUMENT, x, () -> x.addRail(100, 0, 1, 0));
        refuses("rise 1001", ARGUMENT, x, () -> x.addRail(100, 1001, 1, 0));
        refuses("fall 0", ARGUMENT, x, () -> x.addRail(100, 1, 0, 0));
        refuses("fall 1001", ARGUMENT, x, () -> x.addRail(100, 1, 1001, 0));
        refuses("needs itself", ARGUMENT, x, () -> x.addRail(100, 1, 1, 1));
        refuses("needs -1", ARGUMENT, x, () -> x.addRail(100, 1, 1, -1));
        refuses("wild", ARGUMENT, x, () -> x.addRail(Integer.MIN_VALUE, Integer.MAX_VALUE, 1, 0));
        due("saved", 0, x.count(8));
        due("the first", 0, x.addRail(100, 1, 1000, 0));
        due("the second", 1, x.addRail(5000, 1000, 1, 1));
        int[] first = {100, 1, 1000, 90, 2, 40, 2, 0, 2, 0, 0, 0, 0, 0, 0, 0, 0, NONE, NONE};
        int[] second = {5000, 1000, 1, 90, 2, 40, 2, 1, 0, 0, 0, 0, 0, 0, 0, 0, 0, NONE, NONE};
        for (int what = 0; what < 19; what++) {
            due("rail(0, " + what + ")", first[what], x.rail(0, what));
            due("rail(1, " + what + ")", second[what], x.rail(1, what));
        }
        refuses("needs 4 of 2 rails", ARGUMENT, x, () -> x.addRail(100, 1, 1, 4));
        refuses("needs the sign", ARGUMENT, x, () -> x.addRail(100, 1, 1, Integer.MIN_VALUE));
        undoable("addRail", x, () -> x.addRail(100, 1, 1, 3));
        for (int r = 2; r < 8; r++) {
            due("rail " + r, r, x.addRail(100, 1, 1, (1 << r) - 1));
        }
        refuses("the ninth", STATE, x, () -> x.addRail(100, 1, 1, 255));
        refuses("the ninth, wrong", ARGUMENT, x, () -> x.addRail(100, 1, 1, 256));
        refuses("the ninth, wrong target", ARGUMENT, x, () -> x.addRail(0, 1, 1, 0));
        due("rails", 8, x.count(0));
    }

    private static void set() {
        about("promise 3");
        int[] least = {100, 1, 1, 50, 0, 1, 1};
        int[] most = {5000, 1000, 1000, 100, 50, 200, 4};
        int[] atFirst = {1000, 400, 300, 90, 2, 40, 2};
        RailSequence x = oneRail();
        for (int p = 0; p < 7; p++) {
            int property = p;
            refuses("below " + p, ARGUMENT, x, () -> x.set(0, property, least[property] - 1));
            refuses("above " + p, ARGUMENT, x, () -> x.set(0, property, most[property] + 1));
            undoable("set " + p, x, () -> x.set(0, property, least[property]));
            due("first of " + p, atFirst[p], x.set(0, p, least[p]));
            due("least of " + p, least[p], x.set(0, p, most[p]));
            due("most of " + p, most[p], x.rail(0, p));
        }
        refuses("no property 7", INDEX, x, () -> x.set(0, 7, 0));
        refuses("no property -1", INDEX, x, () -> x.set(0, -1, 100));
        refuses("no rail 1", INDEX, x, () -> x.set(1, 0, 100));
        refuses("no rail -1", INDEX, x, () -> x.set(-1, 0, 100));
        refuses("no rail, wrong value", INDEX, x, () -> x.set(1, 0, 0));
        undoable("set to the same", x, () -> x.set(0, 6, 4));
    }

    private static void setNeeds() {
        about("promise 4");
        RailSequence x = fourRails();
        due("before", 2, x.setNeeds(3, 7));
        due("then", 7, x.setNeeds(3, 4));
        due("now", 4, x.rail(3, 7));
        due("followers of 1", 0, x.rail(1, 8));
        due("followers of 0", 14, x.rail(0, 8));
        undoable("setNeeds", x, () -> x.setNeeds(3, 0));
        refuses("itself", ARGUMENT, x, () -> x.setNeeds(2, 4));
        refuses("a later one", ARGUMENT, x, () -> x.setNeeds(2, 8));
        refuses("the first needs none", ARGUMENT, x, () -> x.setNeeds(0, 1));
        refuses("negative", ARGUMENT, x, () -> x.setNeeds(3, -1));
        refuses("no rail 4", INDEX, x, () -> x.setNeeds(4, 0));
        refuses("no rail -1", INDEX, x, () -> x.setNeeds(-1, -1));
        x.on(1);
        due("wanted, still off", 0, x.setNeeds(0, 0));
        x.tick(1);
        refuses("waiting", STATE, x, () -> x.setNeeds(0, 0));
        refuses("waiting and wrong", ARGUMENT, x, () -> x.setNeeds(0, 1));
        x.tick(1);
        refuses("rising", STATE, x, () -> x.setNeeds(0, 0));
        x.tick(1);
        refuses("good", STATE, x, () -> x.setNeeds(0, 0));
        x.set(0, 6, 1);
        x.shortCircuit(0, 1);
        x.tick(1);
        due("state", 5, x.rail(0, 10));
        due("failed", 0, x.setNeeds(0, 0));
        x.restart(0);
        refuses("falling", STATE, x, () -> x.setNeeds(0, 0));
    }

    private static void setResidue() {
        about("promise 5");
        RailSequence x = oneRail();
        undoable("setResidue", x, () -> x.setResidue(1));
        due("at first", 100, x.setResidue(0));
        due("then", 0, x.setResidue(500));
        due("now", 500, x.count(2));
        refuses("-1", ARGUMENT, x, () -> x.setResidue(-1));
        refuses("501", ARGUMENT, x, () -> x.setResidue(501));
        // falling from 1000 by 300: at 400 it is discharged
        x.on(1);
        x.tick(7);
        x.off(1);
        x.tick(1);
        dueRail(x, 0, 4, 1000, 2, 0, NONE);
        x.tick(1);
        dueRail(x, 0, 4, 700, 2, 0, NONE);
        x.tick(1);
        dueRail(x, 0, 0, 400, 2, 0, NONE);
        RailSequence y = oneRail();
        y.setResidue(400);
        y.on(1);
        y.tick(7);
        y.off(1);
        y.tick(3);
        dueRail(y, 0, 0, 400, 2, 0, NONE);
        RailSequence z = oneRail();
        z.setResidue(399);
        z.on(1);
        z.tick(7);
        z.off(1);
        z.tick(3);
        dueRail(z, 0, 4, 400, 2, 0, NONE);
    }

    private static void on() {
        about("promise 6");
        RailSequence x = fourRails();
        undoable("on", x, () -> x.on(8));
        due("3 with 1 and 0", 11, x.on(8));
        due("none more", 11, x.on(0));
        due("2 too", 15, x.on(4));
        refuses("no rail 4", ARGUMENT, x, () -> x.on(16));
        refuses("the sign", ARGUMENT, x, () -> x.on(Integer.MIN_VALUE));
        refuses("all bits", ARGUMENT, x, () -> x.on(-1));
        due("wanted", 15, x.count(3));
        undoable("on of none", x, () -> x.on(0));
        RailSequence y = new RailSequence();
        due("no rails", 0, y.on(0));
        refuses("no rail 0", ARGUMENT, y, () -> y.on(1));
    }

    private static void off() {
        about("promise 7");
        RailSequence x = fourRails();
        x.on(15);
        undoable("off", x, () -> x.off(2));
        due("1 with 3", 5, x.off(2));
        due("none more", 5, x.off(0));
        due("not wanted", 5, x.off(8));
        due("0 with all", 0, x.off(1));
        refuses("no rail 4", ARGUMENT, x, () -> x.off(17));
        refuses("all bits", ARGUMENT, x, () -> x.off(-1));
        undoable("off of none", x, () -> x.off(0));
        RailSequence y = new RailSequence();
        due("no rails", 0, y.off(0));
    }

    private static void restart() {
        about("promise 8");
        RailSequence x = fourGoodRails();
        refuses("no rail 4", INDEX, x, () -> x.restart(4));
        refuses("no rail -1", INDEX, x, () -> x.restart(-1));
        undoable("restart", x, () -> x.restart(1));
        int entries = x.count(6);
        due("1 and 3", 2, x.restart(1));
        due("entries", entries + 2, x.count(6));
        dueEntry(x, 0, 20, 3, 4, 1);
        dueEntry(x, 1, 20, 1, 4, 1);
        due("good", 5, x.count(4));
        due("falling ones stay", 0, x.restart(1));
        due("the good ones", 2, x.restart(0));
        due("blame of 1", 1, x.rail(1, 17));
        due("blame of 2", 0, x.rail(2, 17));
        due("account of failures", 0, x.account(1, 2));
        x.off(2);
        refuses("not wanted", STATE, x, () -> x.restart(1));
        refuses("not wanted", STATE, x, () -> x.restart(3));

        RailSequence y = fourRails();
        y.set(1, 6, 1);
        y.stick(1, 1);
        y.set(1, 5, 1);
        y.on(2);
        y.tick(20);
        dueRail(y, 1, 5, 0, 1, 1, 1);
        due("0 is good, 1 failed and wanted", 2, y.restart(0));
        dueRail(y, 1, 4, 0, 1, 0, 0);
        dueEntry(y, 0, 20, 1, 4, 0);
        dueEntry(y, 1, 20, 0, 4, 0);
        due("failures in all", 1, y.account(1, 2));
        RailSequence z = fourRails();
        z.set(1, 6, 1);
        z.stick(1, 1);
        z.set(1, 5, 1);
        z.on(2);
        z.tick(20);
        z.off(2);
        due("1 failed, not wanted", 1, z.restart(0));
        due("state of 1", 5, z.rail(1, 10));
        RailSequence v = fourRails();
        v.on(1);
        due("off", 0, v.restart(0));
        v.tick(1);
        due("waiting", 0, v.restart(0));
        v.tick(1);
        due("rising", 1, v.restart(0));
        dueRail(v, 0, 4, 0, 0, 0, 0);
        undoable("restart of none", v, () -> v.restart(0));

        RailSequence w = fourGoodRails();
        w.off(8);
        due("a good one that is not wanted falls too", 2, w.restart(1));
        due("state of 3", 4, w.rail(3, 10));
    }

    private static void shortCircuit() {
        about("promise 9");
        RailSequence x = oneRail();
        x.set(0, 6, 4);
        x.on(1);
        x.tick(7);
        refuses("no rail 1", INDEX, x, () -> x.shortCircuit(1, 1));
        refuses("no rail, wrong ticks", INDEX, x, () -> x.shortCircuit(-1, -1));
        refuses("-1", ARGUMENT, x, () -> x.shortCircuit(0, -1));
        refuses("501", ARGUMENT, x, () -> x.shortCircuit(0, 501));
        undoable("shortCircuit", x, () -> x.shortCircuit(0, 3));
        due("before", 0, x.shortCircuit(0, 500));
        due("then", 500, x.shortCircuit(0, 2));
        dueRail(x, 0, 3, 1000, 2, 0, NONE);
        x.tick(1);
        dueRail(x, 0, 4, 700, 2, 1, 0);
        due("still", 1, x.rail(0, 14));
        x.tick(1);
        due("over", 0, x.rail(0, 14));
        x.tick(1);
        due("not below 0", 0, x.rail(0, 14));
        due("freed before its time", 0, x.shortCircuit(0, 5));
        due("5 then 0", 5, x.shortCircuit(0, 0));
        // a short of a rail that rises keeps it down, and then it goes on
        RailSequence y = oneRail();
        y.on(1);
        y.tick(5);
        dueRail(y, 0, 2, 400, 1, 0, NONE);
        y.shortCircuit(0, 1);
        y.tick(1);
        dueRail(y, 0, 2, 100, 2, 0, NONE);
        y.tick(1);
        dueRail(y, 0, 2, 500, 3, 0, NONE);
    }

    private static void stick() {
        about("promise 10");
        RailSequence x = oneRail();
        undoable("stick", x, () -> x.stick(0, 2));
        due("before", 0, x.stick(0, 2));
        due("flag", 1, x.rail(0, 12));
        due("then", 2, x.stick(0, 1));
        due("flag", 0, x.rail(0, 12));
        due("how", 1, x.rail(0, 13));
        refuses("3", ARGUMENT, x, () -> x.stick(0, 3));
        refuses("-1", ARGUMENT, x, () -> x.stick(0, -1));
        refuses("no rail 1", INDEX, x, () -> x.stick(1, 3));
        refuses("no rail -1", INDEX, x, () -> x.stick(-1, 0));
        due("freed", 1, x.stick(0, 0));
        x.on(1);
        x.tick(7);
        due("flag of a good one", 1, x.rail(0, 12));
        x.stick(0, 1);
        x.tick(1);
        dueRail(x, 0, 4, 1000, 2, 1, 0);
        RailSequence y = oneRail();
        y.stick(0, 2);
        y.on(1);
        y.tick(5);
        dueRail(y, 0, 3, 400, 0, 0, NONE);
    }

    private static void tick() {
        about("promise 11");
        RailSequence x = oneRail();
        refuses("0", ARGUMENT, x, () -> x.tick(0));
        refuses("-1", ARGUMENT, x, () -> x.tick(-1));
        refuses("201", ARGUMENT, x, () -> x.tick(201));
        undoable("tick", x, () -> x.tick(200));
        x.set(0, 5, 2);
        x.on(1);
        due("off to waiting", 1, x.tick(1));
        dueRail(x, 0, 1, 0, 0, 0, NONE);
        due("the delay", 0, x.tick(2));
        dueRail(x, 0, 1, 0, 2, 0, NONE);
        due("waiting to rising", 1, x.tick(1));
        dueRail(x, 0, 2, 0, 0, 0, NONE);
        due("rising", 0, x.tick(1));
        dueRail(x, 0, 2, 400, 1, 0, NONE);
        due("out of patience", 1, x.tick(1));
        dueRail(x, 0, 4, 800, 2, 1, 0);
        due("discharging", 0, x.tick(2));
        dueRail(x, 0, 4, 200, 2, 1, 0);
        due("again", 1, x.tick(1));
        dueRail(x, 0, 1, 0, 0, 1, 0);
        due("out of tries", 2, x.tick(5));
        dueRail(x, 0, 5, 800, 2, 2, 0);
        due("failed for good", 0, x.tick(50));
        dueRail(x, 0, 5, 0, 2, 2, 0);
        x.off(1);
        due("failed to off", 1, x.tick(3));
        dueRail(x, 0, 0, 0, 2, 2, 0);
        x.set(0, 5, 3);
        x.on(1);
        due("anew", 1, x.tick(1));
        dueRail(x, 0, 1, 0, 0, 0, 0);
        due("good in time", 2, x.tick(6));
        dueRail(x, 0, 3, 1000, 2, 0, NONE);
        x.set(0, 0, 1600);
        x.tick(1);
        dueRail(x, 0, 4, 1400, 2, 1, 0);
    }

    /** The parts of a tick where rails look at one another, and the last tick of all. */
    private static void tickOfManyRails() {
        RailSequence x = fourGoodRails();
        due("ticks", 20, x.count(1));
        // targets go up and down by the rise, a good rail keeps its flag
        x.set(2, 1, 30);
        x.set(2, 0, 1090);
        x.tick(1);
        dueRail(x, 2, 3, 1030, 0, 0, NONE);
        x.set(2, 0, 950);
        x.tick(1);
        dueRail(x, 2, 3, 1000, 0, 0, NONE);
        x.tick(2);
        dueRail(x, 2, 3, 950, 0, 0, NONE);
        // switching off goes from the last to the first
        x.off(1);
        due("3 and 2 fall at once", 2, x.tick(1));
        due("0 and 1 are good", 3, x.count(4));
        due("3 is off", 2, x.tick(2));
        dueRail(x, 3, 0, 0, 0, 0, NONE);
        due("1 falls then", 1, x.tick(1));
        due("1 is off", 1, x.tick(2));
        due("0 falls then", 1, x.tick(1));
        due("0 is off", 1, x.tick(2));
        due("nothing more", 0, x.tick(10));

        // the states of others are those of the beginning of the tick, the flags are those behind part 1
        RailSequence y = fourGoodRails();
        y.stick(0, 1);
        due("0 fails, 1 and 2 fall with it", 3, y.tick(1));
        dueRail(y, 0, 4, 1000, 0, 1, 0);
        dueRail(y, 1, 4, 1000, 0, 0, 0);
        dueRail(y, 3, 3, 1000, 0, 0, NONE);
        due("3 one later", 1, y.tick(1));
        dueRail(y, 3, 4, 1000, 0, 0, 1);

        // of several the lowest one is blamed; a need that is not good is as bad as one without flag
        RailSequence z = fourRails();
        z.setNeeds(3, 7);
        z.on(15);
        z.tick(20);
        z.stick(2, 1);
        z.stick(1, 1);
        z.tick(1);
        due("blame of 3", 1, z.rail(3, 17));
        RailSequence v = fourRails();
        v.on(8);
        v.set(3, 1, 1);
        v.tick(6);
        dueRail(v, 3, 2, 0, 0, 0, NONE);
        v.stick(0, 1);
        v.stick(1, 2);
        v.tick(1);
        dueRail(v, 3, 2, 1, 1, 0, NONE);
        v.tick(1);
        dueRail(v, 3, 4, 2, 1, 0, 1);

        // waiting: a need without flag sets the time back; and off from waiting
        RailSequence w = fourRails();
        w.set(1, 4, 5);
        w.on(2);
        w.tick(6);
        dueRail(w, 1, 1, 0, 3, 0, NONE);
        w.stick(0, 1);
        w.set(0, 6, 4);
        w.tick(1);
        dueRail(w, 1, 1, 0, 0, 0, NONE);
        w.off(2);
        due("off from waiting", 1, w.tick(1));
        due("state of 1", 0, w.rail(1, 10));

        // not wanted while it rises
        RailSequence u = oneRail();
        u.on(1);
        u.tick(5);
        u.off(1);
        u.tick(1);
        dueRail(u, 0, 4, 800, 1, 0, NONE);

        // and with a blame from before
        RailSequence q = oneRail();
        q.set(0, 5, 2);
        q.on(1);
        q.tick(13);
        dueRail(q, 0, 2, 400, 1, 1, 0);
        q.off(1);
        q.tick(1);
        dueRail(q, 0, 4, 800, 1, 1, NONE);

        RailSequence t = oneRail();
        for (int i = 0; i < 99; i++) {
            t.tick(200);
        }
        t.tick(199);
        refuses("20001", STATE, t, () -> t.tick(2));
        refuses("20199", STATE, t, () -> t.tick(200));
        refuses("wrong too", ARGUMENT, t, () -> t.tick(201));
        due("the last tick", 0, t.tick(1));
        due("20000", 20000, t.count(1));
        refuses("none more", STATE, t, () -> t.tick(1));
    }

    private static void append() {
        about("promise 12");
        RailSequence x = new RailSequence();
        refuses("32", ARGUMENT, x, () -> x.append(32));
        refuses("127", ARGUMENT, x, () -> x.append(127));
        refuses("-1", ARGUMENT, x, () -> x.append(-1));
        due("33", 1, x.append(33));
        due("126", 2, x.append(126));
        for (int i = 3; i <= 60; i++) {
            due("character " + i, i, x.append(48));
        }
        refuses("the 61st", STATE, x, () -> x.append(48));
        refuses("the 61st, wrong", ARGUMENT, x, () -> x.append(127));
        due("saved", 0, x.count(8));
    }

    private static void clearBuffer() {
        about("promise 13");
        RailSequence x = new RailSequence();
        type(x, "abc");
        due("length", 3, x.clearBuffer());
        due("cleared", 0, x.clearBuffer());
        due("first again", 1, x.append(48));
        due("saved", 0, x.count(8));
    }

    private static void firstError() {
        about("promise 14");
        errorAt("", 0);
        errorAt("1", 1);
        errorAt("0", 0);
        errorAt("/", 0);
        errorAt("9/", 1);
        errorAt("99/", 2);
        errorAt("100/", 4);
        errorAt("5000/", 5);
        errorAt("5001", 3);
        errorAt("501", 3);
        errorAt("5010", 3);
        errorAt("600", 3);
        errorAt("6000", 3);
        errorAt("10000", 4);
        errorAt("100/0", 4);
        errorAt("100//", 4);
        errorAt("100/1/", 6);
        errorAt("100/1000/1000", 13);
        errorAt("100/1001", 7);
        errorAt("100/2000", 7);
        errorAt("100/1/1001", 9);
        errorAt("100/1/0", 6);
        errorAt("100/1/1/", 7);
        errorAt("100/1<", 5);
        errorAt("100;", 3);
        errorAt("100/1;", 5);
        errorAt("100/1/;", 6);
        errorAt("100/1/<", 6);
        errorAt("100/1/1<", 8);
        errorAt("100/1/1<;", 8);
        errorAt("100/1/1<0123456;", 16);
        errorAt("100/1/1<7", 8);
        errorAt("100/1/1<67", 9);
        errorAt("100/1/1<00", 9);
        errorAt("100/1/1<10", 9);
        errorAt("100/1/1<0/", 9);
        errorAt("100/1/1<0<", 9);
        errorAt("100/1/1;", 8);
        errorAt("100/1/1;;", 8);
        errorAt("100/1/1;0", 8);
        errorAt("100/1/1<6;100/1/1<0", 19);
        errorAt("100/1/1;99/", 10);
        errorAt("a", 0);
        errorAt("100/1/1:", 7);
        errorAt("100.", 3);
        errorAt("100/1/1;100/1/1;100/1/1;100/1/1;100/1/1;100/1/1;100/1/1;100/", 60);
    }

    private static void errorAt(String text, int want) {
        RailSequence x = new RailSequence();
        type(x, text);
        due("firstError of " + text, want, x.firstError());
        due("length of " + text, text.length(), x.clearBuffer());
    }

    private static void load() {
        about("promise 15");
        for (String text : new String[] {"", "100", "100/1", "100/1/", "100/1/1<", "100/1/1;", "100/1/1;99",
                "100/1/1<;100/1/1", "99/1/1", "100/1/1x", "100/1/1<0;", "5001/1/1", "100/1001/1"}) {
            RailSequence x = new RailSequence();
            type(x, text);
            refuses(text, ARGUMENT, x, x::load);
        }
        RailSequence x = oneRail();
        type(x, "5000/1000/1000<0;100/1/2;1234/56/78<012");
        due("rails then", 4, x.load());
        due("the buffer is cleared", 0, x.clearBuffer());
        int[] second = {5000, 1000, 1000, 90, 2, 40, 2, 1};
        int[] fourth = {1234, 56, 78, 90, 2, 40, 2, 7};
        for (int what = 0; what < 8; what++) {
            due("rail(1, " + what + ")", second[what], x.rail(1, what));
            due("rail(3, " + what + ")", fourth[what], x.rail(3, what));
        }
        due("fall of 2", 2, x.rail(2, 2));
        due("needs of 2", 0, x.rail(2, 7));
        due("saved", 2, x.count(8));
        type(x, "100/1/1<0;200/2/2<4");
        due("needs one of the same text", 6, x.load());
        x.undo();
        due("undone", 4, x.count(0));
        due("undo leaves the buffer alone", 0, x.clearBuffer());
        type(x, "100/1/1<4");
        refuses("needs itself", STATE, x, x::load);
        type(x, "100/1/1<5;100/1/1");
        refuses("needs a later one", STATE, x, x::load);
        type(x, "100/1/1;100/1/1;100/1/1;100/1/1;100/1/1");
        refuses("nine rails", STATE, x, x::load);
        type(x, "100/1/1;100/1/1;100/1/1;100/1/1;100/1/1;");
        refuses("nine rails, not complete", ARGUMENT, x, x::load);
        type(x, "100/1/1;100/1/1;100/1/1;100/1/1");
        due("eight rails", 8, x.load());
        type(x, "100/1/1");
        refuses("the ninth", STATE, x, x::load);
        RailSequence y = new RailSequence();
        type(y, "100/1/1<0");
        refuses("the first needs one", STATE, y, y::load);
        type(y, "100/1/1");
        undoable("load", y, y::load);
    }

    private static void undo() {
        about("promise 16");
        RailSequence x = new RailSequence();
        refuses("none", STATE, x, x::undo);
        x.addRail(1000, 400, 300, 0);
        for (int i = 1; i <= 8; i++) {
            x.setResidue(i);
            due("saved", Math.min(i + 1, 6), x.count(8));
        }
        type(x, "xyz");
        for (int left = 5; left >= 0; left--) {
            due("left", left, x.undo());
            due("residue", left + 2, x.count(2));
        }
        refuses("none left", STATE, x, x::undo);
        due("the buffer stays", 3, x.clearBuffer());
        // a tick of many is one call, and a saved state keeps what it was
        x.on(1);
        x.tick(100);
        x.stick(0, 1);
        x.tick(100);
        x.undo();
        x.undo();
        due("accounts", 94, x.account(0, 3));
        due("entries", 3, x.count(6));
        x.undo();
        due("tick", 0, x.count(1));
        due("entries", 0, x.count(6));
        due("wanted", 1, x.count(3));
        due("the last", 0, x.undo());
        due("wanted", 0, x.count(3));
        // a state that was dropped and its room used again does not show
        for (int i = 0; i < 20; i++) {
            x.setResidue(i);
        }
        x.undo();
        x.setResidue(77);
        x.undo();
        due("residue", 18, x.count(2));
        x.undo();
        due("residue", 17, x.count(2));
    }

    private static void rail() {
        about("promise 17");
        RailSequence x = fourGoodRails();
        refuses("no rail 4", INDEX, x, () -> x.rail(4, 0));
        refuses("no rail -1", INDEX, x, () -> x.rail(-1, 0));
        refuses("no rail, wrong what", INDEX, x, () -> x.rail(4, 19));
        refuses("19", ARGUMENT, x, () -> x.rail(0, 19));
        refuses("-1", ARGUMENT, x, () -> x.rail(0, -1));
        x.stick(2, 2);
        x.shortCircuit(2, 9);
        int[] second = {1000, 1000, 500, 90, 0, 40, 2, 1, 8, 1, 3, 1000, 1, 0, 0, 0, 0, NONE, NONE};
        int[] third = {1000, 1000, 500, 90, 0, 40, 2, 1, 0, 1, 3, 1000, 1, 2, 9, 0, 0, NONE, NONE};
        for (int what = 0; what < 19; what++) {
            due("rail(1, " + what + ")", second[what], x.rail(1, what));
            due("rail(2, " + what + ")", third[what], x.rail(2, what));
        }
        due("followers of 0", 14, x.rail(0, 8));
        due("followers of 3", 0, x.rail(3, 8));
        x.stick(0, 1);
        x.tick(2);
        due("blame of 3", 1, x.rail(3, 17));
        due("first blame of 3", 0, x.rail(3, 18));
        due("first blame of 0, itself", 0, x.rail(0, 18));
        // the way ends at one without a blame too
        RailSequence y = fourGoodRails();
        y.restart(1);
        y.off(2);
        y.tick(10);
        y.on(8);
        y.tick(10);
        due("good again without blame", NONE, y.rail(3, 18));
        y.set(1, 6, 4);
        y.stick(1, 1);
        y.tick(1);
        y.stick(1, 0);
        y.tick(4);
        due("1 is good again", 3, y.rail(1, 10));
        due("3 is not yet", 1, y.rail(3, 10));
        due("blame of 3", 1, y.rail(3, 17));
        due("blame of 1", NONE, y.rail(1, 17));
        due("first blame of 3", 1, y.rail(3, 18));
        // the flag at its edge: 90 percent of 1000
        RailSequence z = new RailSequence();
        z.addRail(1000, 899, 1, 0);
        z.on(1);
        z.tick(5);
        due("voltage", 899, z.rail(0, 11));
        due("flag at 899", 0, z.rail(0, 12));
        z.set(0, 0, 998);
        due("flag at 899 of 898.2", 1, z.rail(0, 12));
        z.set(0, 0, 999);
        due("flag at 899 of 899.1", 0, z.rail(0, 12));
    }

    private static void account() {
        about("promise 18");
        RailSequence x = oneRail();
        refuses("no rail 1", INDEX, x, () -> x.account(1, 0));
        refuses("no rail, wrong what", INDEX, x, () -> x.account(-1, 4));
        refuses("4", ARGUMENT, x, () -> x.account(0, 4));
        refuses("-1", ARGUMENT, x, () -> x.account(0, -1));
        x.set(0, 5, 2);
        x.on(1);
        x.tick(60);
        dueAccounts(x, 0, 2, 0, 2, 0);
        x.set(0, 5, 40);
        x.restart(0);
        x.tick(1);
        dueAccounts(x, 0, 2, 0, 2, 0);
        x.tick(3);
        dueAccounts(x, 0, 3, 0, 2, 0);
        x.tick(3);
        dueAccounts(x, 0, 3, 1, 2, 1);
        x.tick(10);
        dueAccounts(x, 0, 3, 1, 2, 11);
        x.stick(0, 1);
        x.tick(1);
        dueAccounts(x, 0, 3, 1, 3, 11);
    }

    private static void entry() {
        about("promise 19");
        RailSequence x = oneRail();
        refuses("back -1", ARGUMENT, x, () -> x.entry(-1, 0));
        refuses("back 16", ARGUMENT, x, () -> x.entry(16, 0));
        refuses("what -1", ARGUMENT, x, () -> x.entry(0, -1));
        refuses("what 4", ARGUMENT, x, () -> x.entry(0, 4));
        dueEntry(x, 15, NONE, NONE, NONE, NONE);
        x.on(1);
        x.tick(7);
        dueEntry(x, 0, 6, 0, 3, NONE);
        dueEntry(x, 1, 3, 0, 2, NONE);
        dueEntry(x, 2, 0, 0, 1, NONE);
        dueEntry(x, 3, NONE, NONE, NONE, NONE);
        // those of one tick in ascending order, with the blames then; the latest 16 alone
        RailSequence y = fourGoodRails();
        due("entries", 12, y.count(6));
        dueEntry(y, 11, 0, 0, 1, NONE);
        dueEntry(y, 8, 0, 3, 1, NONE);
        dueEntry(y, 7, 1, 0, 2, NONE);
        dueEntry(y, 0, 6, 3, 3, NONE);
        y.stick(0, 1);
        y.tick(2);
        due("entries", 16, y.count(6));
        dueEntry(y, 0, 21, 3, 4, 1);
        dueEntry(y, 1, 20, 2, 4, 0);
        dueEntry(y, 2, 20, 1, 4, 0);
        dueEntry(y, 3, 20, 0, 4, 0);
        dueEntry(y, 4, 6, 3, 3, NONE);
        dueEntry(y, 15, 0, 0, 1, NONE);
        y.tick(1);
        due("entries", 16, y.count(6));
        dueEntry(y, 0, 22, 2, 1, 0);
        dueEntry(y, 2, 22, 0, 1, 0);
        dueEntry(y, 15, 0, 3, 1, NONE);
    }

    private static void forget() {
        about("promise 20");
        RailSequence x = fourGoodRails();
        refuses("no rail 4", INDEX, x, () -> x.forget(4));
        refuses("no rail -1", INDEX, x, () -> x.forget(-1));
        undoable("forget", x, () -> x.forget(1));
        due("of 1", 3, x.forget(1));
        due("entries", 9, x.count(6));
        dueEntry(x, 0, 6, 3, 3, NONE);
        dueEntry(x, 1, 5, 3, 2, NONE);
        dueEntry(x, 2, 4, 2, 3, NONE);
        dueEntry(x, 8, 0, 0, 1, NONE);
        dueEntry(x, 9, NONE, NONE, NONE, NONE);
        undoable("forget of none", x, () -> x.forget(1));
        due("of 1 again", 0, x.forget(1));
        due("of 0", 3, x.forget(0));
        due("of 2", 3, x.forget(2));
        due("of 3", 3, x.forget(3));
        due("entries", 0, x.count(6));
        x.restart(0);
        due("entries", 4, x.count(6));
        dueEntry(x, 0, 20, 3, 4, 0);
    }

    private static void count() {
        about("promise 21");
        RailSequence x = fourGoodRails();
        refuses("10", ARGUMENT, x, () -> x.count(10));
        refuses("-1", ARGUMENT, x, () -> x.count(-1));
        int[] good = {4, 20, 100, 15, 15, 0, 12, 4000, 6, 1};
        for (int what = 0; what < 10; what++) {
            due("count(" + what + ")", good[what], x.count(what));
        }
        x.set(1, 6, 1);
        x.stick(1, 1);
        due("a state would change", 0, x.count(9));
        x.tick(2);
        due("good", 5, x.count(4));
        due("failed", 2, x.count(5));
        due("sum", 3000, x.count(7));
        x.off(8);
        due("wanted", 7, x.count(3));
        RailSequence y = oneRail();
        due("off", 1, y.count(9));
        y.on(1);
        due("would wait", 0, y.count(9));
        y.tick(1);
        due("the time would change", 0, y.count(9));
        y.tick(3);
        due("the voltage would change", 0, y.count(9));
        y.tick(4);
        due("good", 1, y.count(9));
        y.shortCircuit(0, 5);
        due("shorted", 0, y.count(9));
        RailSequence z = fourRails();
        z.stick(0, 1);
        z.set(0, 6, 1);
        z.set(0, 5, 1);
        z.on(2);
        z.tick(10);
        due("1 waits for ever", 1, z.count(9));
        z.shortCircuit(1, 7);
        due("a short that runs out is no change", 1, z.count(9));
    }

    private static void allGoodIn() {
        about("promise 22");
        RailSequence x = oneRail();
        due("none wanted", 0, x.allGoodIn());
        x.on(1);
        due("one", 7, x.allGoodIn());
        x.tick(6);
        due("one left", 1, x.allGoodIn());
        x.tick(1);
        due("is so", 0, x.allGoodIn());
        x.shortCircuit(0, 20);
        due("good still", 0, x.allGoodIn());
        x.set(0, 6, 1);
        x.tick(1);
        due("failed", NONE, x.allGoodIn());
        due("nothing is changed", 1000 - 300, x.rail(0, 11));
        RailSequence y = fourRails();
        y.on(8);
        due("a chain", 7, y.allGoodIn());
        due("with no rails", 0, new RailSequence().allGoodIn());
        // at the end of what is told: 999 and 1000 ticks, and one more
        due("1000", 1000, slow(998).allGoodIn());
        due("1001", NONE, slow(999).allGoodIn());
    }

    /** A rail that is good behind the given number of ticks of discharging and two more. */
    private static RailSequence slow(int discharge) {
        RailSequence x = new RailSequence();
        x.addRail(5000, 1000, 1, 0);
        x.set(0, 4, 0);
        x.on(1);
        x.tick(20);
        x.set(0, 0, 2000);
        x.tick(10);
        x.setResidue(500);
        x.set(0, 1, 1000);
        x.set(0, 0, 500 + discharge);
        x.tick(10);
        due("discharge from", 500 + discharge, x.rail(0, 11));
        x.restart(0);
        x.set(0, 0, 1000);
        x.set(0, 3, 100);
        return x;
    }

    private static void allOffIn() {
        about("promise 23");
        due("with no rails", 0, new RailSequence().allOffIn());
        RailSequence x = oneRail();
        due("off", 0, x.allOffIn());
        x.on(1);
        due("wanted, but off", 0, x.allOffIn());
        x.tick(1);
        due("waiting", 1, x.allOffIn());
        x.tick(6);
        // falling with the first tick, at 100 with the fourth
        due("good", 4, x.allOffIn());
        due("still wanted", 1, x.count(3));
        due("still good", 1, x.count(4));
        x.setResidue(99);
        due("good, less residue", 5, x.allOffIn());
        RailSequence y = fourGoodRails();
        due("a chain", 9, y.allOffIn());
        due("1000", 1000, slow(1000).allOffIn());
        due("1001", NONE, slow(1001).allOffIn());
        // a rail that is off, but not discharged: with a lower residue
        RailSequence z = oneRail();
        z.setResidue(500);
        z.on(1);
        z.tick(7);
        z.off(1);
        z.tick(3);
        dueRail(z, 0, 0, 400, 2, 0, NONE);
        z.setResidue(0);
        due("off at 400", 2, z.allOffIn());
    }

    private static void ifShort() {
        about("promise 24");
        RailSequence x = fourGoodRails();
        refuses("no rail 4", INDEX, x, () -> x.ifShort(4, 1, 0));
        refuses("no rail, wrong ticks", INDEX, x, () -> x.ifShort(-1, 0, 0));
        refuses("ticks 0", ARGUMENT, x, () -> x.ifShort(0, 0, 0));
        refuses("ticks 501", ARGUMENT, x, () -> x.ifShort(0, 501, 0));
        refuses("what -1", ARGUMENT, x, () -> x.ifShort(0, 1, -1));
        refuses("what 3", ARGUMENT, x, () -> x.ifShort(0, 1, 3));
        long before = x.digest();
        due("of 1: dropped", 10, x.ifShort(1, 1, 0));
        due("of 1: good then", 15, x.ifShort(1, 1, 1));
        due("of 1: failed then", 0, x.ifShort(1, 1, 2));
        due("of 1 for long: good then", 5, x.ifShort(1, 500, 1));
        due("of 1 for long: failed then", 2, x.ifShort(1, 500, 2));
        due("nothing is changed", before, x.digest());
        x.restart(1);
        due("of 2: those that fall already are not so anew", 4, x.ifShort(2, 1, 0));
        RailSequence y = oneRail();
        y.set(0, 6, 4);
        y.set(0, 4, 50);
        y.on(1);
        y.shortCircuit(0, 400);
        due("the short is as told, not the longer one", 1, y.ifShort(0, 1, 1));
        due("no drop", 0, y.ifShort(0, 1, 0));
        // within 100 ticks: waiting 51, rising 40
        y.tick(1);
        y.set(0, 5, 48);
        due("fails with the 99th", 1, y.ifShort(0, 500, 0));
        y.set(0, 5, 49);
        due("fails with the 100th", 1, y.ifShort(0, 500, 0));
        y.set(0, 5, 50);
        due("fails with the 101st", 0, y.ifShort(0, 500, 0));
    }

    private static void leastPatience() {
        about("promise 25");
        RailSequence x = oneRail();
        refuses("no rail 1", INDEX, x, () -> x.leastPatience(1));
        refuses("no rail -1", INDEX, x, () -> x.leastPatience(-1));
        due("three ticks", 3, x.leastPatience(0));
        x.stick(0, 1);
        x.shortCircuit(0, 100);
        due("stuck and shorted", 3, x.leastPatience(0));
        x.set(0, 1, 1000);
        due("at once", 1, x.leastPatience(0));
        x.set(0, 1, 5);
        due("180", 180, x.leastPatience(0));
        x.set(0, 3, 100);
        due("200", 200, x.leastPatience(0));
        x.set(0, 0, 1001);
        due("201", NONE, x.leastPatience(0));
        x.set(0, 0, 5000);
        x.set(0, 1, 1);
        due("5000", NONE, x.leastPatience(0));
        // as told: with it the rail becomes good, with one less it has a failure
        RailSequence y = oneRail();
        y.set(0, 1, 130);
        int least = y.leastPatience(0);
        due("7", 7, least);
        y.set(0, 5, least);
        y.on(1);
        y.tick(30);
        due("failures", 0, y.account(0, 2));
        due("good", 1, y.count(4));
        RailSequence z = oneRail();
        z.set(0, 1, 130);
        z.set(0, 5, least - 1);
        z.on(1);
        z.tick(30);
        due("failures", 1, Math.min(1, z.account(0, 2)));
    }

    private static void goodShare() {
        about("promise 26");
        due("no rails", 0L, Double.doubleToLongBits(new RailSequence().goodShare()));
        RailSequence x = new RailSequence();
        x.tick(5);
        due("ticks, but no rails", 0L, Double.doubleToLongBits(x.goodShare()));
        x.addRail(1000, 400, 300, 0);
        due("none good", 0L, Double.doubleToLongBits(x.goodShare()));
        x.addRail(1000, 400, 300, 0);
        x.addRail(1000, 400, 300, 0);
        x.on(1);
        x.tick(20);
        due("14 of 75", Double.doubleToLongBits(14.0 / 75.0), Double.doubleToLongBits(x.goodShare()));
        RailSequence y = oneRail();
        due("no ticks", 0L, Double.doubleToLongBits(y.goodShare()));
    }

    private static void digest() {
        about("promise 27");
        RailSequence x = new RailSequence();
        dueDigest("a new object", x, "");
        type(x, "a~!");
        dueDigest("a text", x, "a~!");
        x.addRail(1000, 400, 300, 0);
        x.addRail(1000, 4, 300, 1);
        dueDigest("two rails", x, "a~!");
        x.on(3);
        for (int i = 0; i < 40; i++) {
            x.tick(1 + i * 3);
            dueDigest("two rails that rise", x, "a~!");
        }
        RailSequence y = oneRail();
        y.stick(0, 2);
        y.set(0, 4, 0);
        y.on(1);
        y.tick(3);
        dueDigest("a stuck one", y, "");
        for (int i = 0; i < 100; i++) {
            y.tick(199);
        }
        dueDigest("a stuck one", y, "");
        RailSequence z = oneRail();
        for (int i = 0; i < 98; i++) {
            z.tick(200);
        }
        z.on(1);
        z.tick(7);
        dueDigest("a late one", z, "");
        due("a new object", newDigest(), new RailSequence().digest());
    }

    /** Without any call: what the document says of an object without rails. */
    private static long newDigest() {
        long hash = 2179;
        int[] values = {0, 0, 100, 0, 0, 0, 0, 0, 0, 1, 0, 0, 0, 0};
        for (int value : values) {
            hash = 31 * hash + value;
        }
        return hash;
    }
}
