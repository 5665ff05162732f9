import java.util.ArrayList;
import java.util.List;
import java.util.Random;
import java.util.function.LongSupplier;

/** Long runs of calls with fixed seeds: the program answers each one as the model does. */
public final class ModelTest {
    private static final int RUNS = 400;
    private static final int CALLS = 512;
    private static final int[] WILD = {-1, -2, 8, 9, 19, 31, 32, 33, 64, 501, 1001, 5001,
        Integer.MIN_VALUE, Integer.MAX_VALUE, 1 << 30, 1 << 8, -256};

    private final Random random;
    private final int run;
    private final RailSequence real = new RailSequence();
    private final Model model = new Model();
    private final List<String> calls = new ArrayList<>();
    /** Runs differ in how far their ticks go. */
    private final int mostTicks;
    private boolean isRight = true;

    private ModelTest(int run) {
        this.run = run;
        random = new Random(run);
        mostTicks = new int[] {1, 3, 15, 200}[run % 4];
    }

    public static void main(String[] args) {
        int wrong = 0;
        for (int run = 0; run < RUNS; run++) {
            wrong += new ModelTest(run).isRight() ? 0 : 1;
        }
        System.out.println(wrong == 0 ? "all runs are as the model's" : wrong + " runs are not as the model's");
        if (wrong != 0) {
            System.exit(1);
        }
    }

    private boolean isRight() {
        begin();
        while (calls.size() < CALLS && isRight) {
            step();
            if (calls.size() % 8 == 0 || run % 16 == 0) {
                both("digest()", real::digest, model::digest);
            }
        }
        return isRight;
    }

    /** Most runs start with some rails that can rise; the others find theirs by the calls alone. */
    private void begin() {
        if (run % 5 == 0) {
            return;
        }
        int rails = 2 + random.nextInt(6);
        for (int r = 0; r < rails; r++) {
            int target = between(500, 3000);
            int rise = between(target / 8, Math.min(1000, target));
            int fall = between(50, 1000);
            int needs = random.nextInt(1 << r) & random.nextInt(1 << r);
            both("addRail(" + target + ", " + rise + ", " + fall + ", " + needs + ")",
                    () -> real.addRail(target, rise, fall, needs),
                    () -> model.addRail(target, rise, fall, needs));
        }
        int all = (1 << rails) - 1;
        both("on(" + all + ")", () -> real.on(all), () -> model.on(all));
    }

    private int between(int least, int most) {
        return least + random.nextInt(most - least + 1);
    }

    private int oneOf(int least, int most) {
        if (random.nextInt(40) == 0) {
            return WILD[random.nextInt(WILD.length)];
        }
        int at = random.nextInt(12);
        return at == 0 ? least : at == 1 ? most : between(least, most);
    }

    private int rail() {
        return oneOf(0, Math.max(0, real.count(0) - 1));
    }

    private int mask() {
        return oneOf(0, (1 << real.count(0)) - 1);
    }

    private int valueOf(int property) {
        int[] least = {99, 0, 0, 49, -1, 0, 0};
        int[] most = {5001, 1001, 1001, 101, 51, 201, 5};
        if (property < 0 || property > 6) {
            return random.nextInt(100);
        }
        if (property == 5 || property == 4) {
            return oneOf(least[property] + 1, least[property] + 12);
        }
        return oneOf(least[property], most[property]);
    }

    private void step() {
        int kind = random.nextInt(100);
        if (kind < 24) {
            int ticks = oneOf(1, mostTicks);
            both("tick(" + ticks + ")", () -> real.tick(ticks), () -> model.tick(ticks));
        } else if (kind < 50) {
            command(kind % 7, rail(), mask());
        } else if (kind < 62) {
            property(kind % 4, rail());
        } else if (kind < 68) {
            type();
        } else if (kind < 72) {
            both("undo()", real::undo, model::undo);
        } else {
            question(kind % 9, rail());
        }
    }

    private void command(int kind, int r, int mask) {
        int ticks = oneOf(0, random.nextBoolean() ? 5 : 500);
        int how = oneOf(0, 2);
        switch (kind) {
            case 0:
            case 1: both("on(" + mask + ")", () -> real.on(mask), () -> model.on(mask)); break;
            case 2: both("off(" + mask + ")", () -> real.off(mask), () -> model.off(mask)); break;
            case 3: both("restart(" + r + ")", () -> real.restart(r), () -> model.restart(r)); break;
            case 4: both("shortCircuit(" + r + ", " + ticks + ")",
                    () -> real.shortCircuit(r, ticks), () -> model.shortCircuit(r, ticks)); break;
            case 5: both("stick(" + r + ", " + how + ")", () -> real.stick(r, how), () -> model.stick(r, how)); break;
            default: both("stick(" + r + ", 0)", () -> real.stick(r, 0), () -> model.stick(r, 0));
        }
    }

    private void property(int kind, int r) {
        int property = oneOf(0, 6);
        int value = valueOf(property);
        int needs = oneOf(0, (1 << Math.max(0, Math.min(8, r))) - 1);
        int residue = oneOf(0, 500);
        switch (kind) {
            case 0: both("set(" + r + ", " + property + ", " + value + ")",
                    () -> real.set(r, property, value), () -> model.set(r, property, value)); break;
            case 1: both("setNeeds(" + r + ", " + needs + ")",
                    () -> real.setNeeds(r, needs), () -> model.setNeeds(r, needs)); break;
            case 2: both("setResidue(" + residue + ")",
                    () -> real.setResidue(residue), () -> model.setResidue(residue)); break;
            default: addRail();
        }
    }

    private void addRail() {
        int target = valueOf(0);
        int rise = valueOf(1);
        int fall = valueOf(2);
        int needs = mask();
        both("addRail(" + target + ", " + rise + ", " + fall + ", " + needs + ")",
                () -> real.addRail(target, rise, fall, needs), () -> model.addRail(target, rise, fall, needs));
    }

    /** A text that may be wrong somewhere, looked at on the way, and then loaded. */
    private void type() {
        if (random.nextInt(4) != 0) {
            both("clearBuffer()", real::clearBuffer, model::clearBuffer);
        }
        StringBuilder text = new StringBuilder();
        int rails = 1 + random.nextInt(2) * random.nextInt(3);
        for (int i = 0; i < rails; i++) {
            text.append(i == 0 ? "" : ";").append(between(100, 5000)).append('/');
            text.append(between(1, 1000)).append('/').append(between(1, 1000));
            int needs = random.nextInt(128) & random.nextInt(128);
            for (int r = 0; r < 7; r++) {
                text.append(r == 0 && needs != 0 ? "<" : "").append((needs >> r & 1) != 0 ? "" + r : "");
            }
        }
        if (random.nextInt(3) == 0) {
            text.insert(random.nextInt(text.length() + 1), "0123456789/<;;</a~".charAt(random.nextInt(18)));
        }
        if (random.nextInt(6) == 0) {
            text.setLength(random.nextInt(text.length() + 1));
        }
        for (int i = 0; i < text.length(); i++) {
            int code = random.nextInt(200) == 0 ? oneOf(32, 127) : text.charAt(i);
            both("append(" + code + ")", () -> real.append(code), () -> model.append(code));
        }
        both("firstError()", real::firstError, model::firstError);
        both("load()", real::load, model::load);
    }

    private void question(int kind, int r) {
        int what = oneOf(0, 18);
        int account = oneOf(0, 3);
        int back = oneOf(0, 15);
        int ticks = oneOf(1, 500);
        int which = oneOf(0, 2);
        switch (kind) {
            case 0: both("rail(" + r + ", " + what + ")", () -> real.rail(r, what), () -> model.rail(r, what)); break;
            case 1: both("account(" + r + ", " + account + ")",
                    () -> real.account(r, account), () -> model.account(r, account)); break;
            case 2: both("entry(" + back + ", " + account + ")",
                    () -> real.entry(back, account), () -> model.entry(back, account)); break;
            case 3: both("count(" + what + ")", () -> real.count(what), () -> model.count(what)); break;
            case 4: both("allGoodIn()", real::allGoodIn, model::allGoodIn); break;
            case 5: both("allOffIn()", real::allOffIn, model::allOffIn); break;
            case 6: both("ifShort(" + r + ", " + ticks + ", " + which + ")",
                    () -> real.ifShort(r, ticks, which), () -> model.ifShort(r, ticks, which)); break;
            case 7: both("leastPatience(" + r + ")",
                    () -> real.leastPatience(r), () -> model.leastPatience(r)); break;
            default: if (random.nextInt(3) == 0) {
                both("forget(" + r + ")", () -> real.forget(r), () -> model.forget(r));
            }
        }
        both("goodShare()", () -> Double.doubleToLongBits(real.goodShare()),
                () -> Double.doubleToLongBits(model.goodShare()));
    }

    private void both(String call, LongSupplier ofReal, LongSupplier ofModel) {
        if (!isRight || calls.size() >= CALLS) {
            return;
        }
        calls.add(call);
        String want = answer(ofModel);
        String got = answer(ofReal);
        if (!got.equals(want)) {
            isRight = false;
            System.out.println("run " + run + ", call " + calls.size() + ", " + call + ": " + got
                    + ", the model's is " + want + "; the calls before: " + calls);
        }
    }

    private static String answer(LongSupplier call) {
        try {
            return "" + call.getAsLong();
        } catch (RuntimeException e) {
            return e.getClass().getName();
        }
    }
}
