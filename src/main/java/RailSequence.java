/** A sequencer of supply rails. What each call promises stands in ../shared/DOC.md. */
public final class RailSequence {
    public static final int NONE = -1;

    private static final int MOST_RAILS = 8;
    private static final int MOST_SAVED = 6;
    private static final int MOST_CHARACTERS = 60;
    private static final int MOST_RESIDUE = 500;
    private static final int MOST_SHORT = 500;
    private static final int MOST_TICKS = 200;
    private static final int LAST_TICK = 20000;
    private static final int FORECAST_TICKS = 1000;
    private static final int SHORT_FORECAST_TICKS = 100;

    private static final int TARGET = 0;
    private static final int RISE = 1;
    private static final int FALL = 2;
    private static final int THRESHOLD = 3;
    private static final int DELAY = 4;
    private static final int PATIENCE = 5;
    private static final int TRIES = 6;
    private static final int PROPERTIES = 7;
    private static final int[] LEAST = {100, 1, 1, 50, 0, 1, 1};
    private static final int[] MOST = {5000, 1000, 1000, 100, 50, 200, 4};

    private static final int OFF = 0;
    private static final int WAITING = 1;
    private static final int RISING = 2;
    private static final int GOOD = 3;
    private static final int FALLING = 4;
    private static final int FAILED = 5;

    private static final int STUCK_TRUE = 2;

    private static final int BECAME_RISING = 0;
    private static final int BECAME_GOOD = 1;
    private static final int FAILURES_IN_ALL = 2;
    private static final int GOOD_TICKS = 3;
    private static final int ACCOUNTS = 4;

    private static final int RAIL_NUMBERS = 19;
    private static final int COUNTS = 10;

    private final Plant now = new Plant();
    /** Where forecasts run and texts are tried, so that nothing new has to be made for them. */
    private final Plant future = new Plant();
    private final Plant[] saved = new Plant[MOST_SAVED];
    private int savedStates;
    private final int[] buffer = new int[MOST_CHARACTERS];
    private int bufferLength;
    private final TextReader reader = new TextReader();

    public RailSequence() {
        for (int i = 0; i < MOST_SAVED; i++) {
            saved[i] = new Plant();
        }
    }

    // ---- rails

    public int addRail(int target, int rise, int fall, int needs)
            throws IllegalArgumentException, IllegalStateException {
        if (!isInRange(TARGET, target) || !isInRange(RISE, rise) || !isInRange(FALL, fall)) {
            throw new IllegalArgumentException("target, rise or fall is out of range");
        }
        if (!areRails(needs)) {
            throw new IllegalArgumentException("needs has a bit of no rail");
        }
        if (now.rails >= MOST_RAILS) {
            throw new IllegalStateException("there are 8 rails");
        }
        save();
        now.add(target, rise, fall, needs);
        return now.rails - 1;
    }

    public int set(int rail, int property, int value)
            throws IndexOutOfBoundsException, IllegalArgumentException {
        if (!isRail(rail) || property < 0 || property >= PROPERTIES) {
            throw new IndexOutOfBoundsException("no such rail or property");
        }
        if (!isInRange(property, value)) {
            throw new IllegalArgumentException("value is out of range");
        }
        save();
        int previous = now.propertyOf(rail, property);
        now.properties[rail * PROPERTIES + property] = value;
        return previous;
    }

    public int setNeeds(int rail, int needs)
            throws IndexOutOfBoundsException, IllegalArgumentException, IllegalStateException {
        if (!isRail(rail)) {
            throw new IndexOutOfBoundsException("no such rail");
        }
        if (!areBelow(rail, needs)) {
            throw new IllegalArgumentException("needs has a bit of no earlier rail");
        }
        if (now.state[rail] != OFF && now.state[rail] != FAILED) {
            throw new IllegalStateException("the rail is neither off nor failed");
        }
        save();
        int previous = now.needs[rail];
        now.needs[rail] = needs;
        return previous;
    }

    public int setResidue(int residue) throws IllegalArgumentException {
        if (residue < 0 || residue > MOST_RESIDUE) {
            throw new IllegalArgumentException("residue is out of range");
        }
        save();
        int previous = now.residue;
        now.residue = residue;
        return previous;
    }

    // ---- commands

    public int on(int rails) throws IllegalArgumentException {
        if (!areRails(rails)) {
            throw new IllegalArgumentException("rails has a bit of no rail");
        }
        save();
        now.wanted |= now.withAllNeeded(rails);
        return now.wanted;
    }

    public int off(int rails) throws IllegalArgumentException {
        if (!areRails(rails)) {
            throw new IllegalArgumentException("rails has a bit of no rail");
        }
        save();
        now.wanted &= ~now.withFollowers(rails);
        return now.wanted;
    }

    public int restart(int rail) throws IndexOutOfBoundsException, IllegalStateException {
        if (!isRail(rail)) {
            throw new IndexOutOfBoundsException("no such rail");
        }
        if (!now.isWanted(rail)) {
            throw new IllegalStateException("the rail is not wanted");
        }
        save();
        return now.dropForRestart(rail);
    }

    public int shortCircuit(int rail, int ticks)
            throws IndexOutOfBoundsException, IllegalArgumentException {
        if (!isRail(rail)) {
            throw new IndexOutOfBoundsException("no such rail");
        }
        if (ticks < 0 || ticks > MOST_SHORT) {
            throw new IllegalArgumentException("ticks is out of range");
        }
        save();
        int previous = now.shorted[rail];
        now.shorted[rail] = ticks;
        return previous;
    }

    public int stick(int rail, int how) throws IndexOutOfBoundsException, IllegalArgumentException {
        if (!isRail(rail)) {
            throw new IndexOutOfBoundsException("no such rail");
        }
        if (how < 0 || how > STUCK_TRUE) {
            throw new IllegalArgumentException("how is not 0 to 2");
        }
        save();
        int previous = now.stuck[rail];
        now.stuck[rail] = how;
        return previous;
    }

    public int tick(int ticks) throws IllegalArgumentException, IllegalStateException {
        if (ticks < 1 || ticks > MOST_TICKS) {
            throw new IllegalArgumentException("ticks is out of range");
        }
        if (now.tickNumber + ticks > LAST_TICK) {
            throw new IllegalStateException("the number of the tick would be above 20000");
        }
        save();
        int changes = 0;
        for (int i = 0; i < ticks; i++) {
            changes += now.passTick();
        }
        return changes;
    }

    // ---- texts

    public int append(int code) throws IllegalArgumentException, IllegalStateException {
        if (code < 33 || code > 126) {
            throw new IllegalArgumentException("code is not 33 to 126");
        }
        if (bufferLength >= MOST_CHARACTERS) {
            throw new IllegalStateException("the buffer has 60 characters");
        }
        buffer[bufferLength] = code;
        bufferLength++;
        return bufferLength;
    }

    public int clearBuffer() {
        int length = bufferLength;
        bufferLength = 0;
        return length;
    }

    public int firstError() {
        return readBuffer();
    }

    public int load() throws IllegalArgumentException, IllegalStateException {
        if (readBuffer() < bufferLength || !reader.isAtEndOfRail()) {
            throw new IllegalArgumentException("the buffer is not a complete text");
        }
        if (!addTextToFuture()) {
            throw new IllegalStateException("too many rails, or a needed rail is not earlier");
        }
        save();
        now.copyFrom(future);
        bufferLength = 0;
        return now.rails;
    }

    public int undo() throws IllegalStateException {
        if (savedStates <= 0) {
            throw new IllegalStateException("there is no saved state");
        }
        savedStates--;
        now.copyFrom(saved[savedStates]);
        return savedStates;
    }

    // ---- what there is

    public int rail(int rail, int what) throws IndexOutOfBoundsException, IllegalArgumentException {
        if (!isRail(rail)) {
            throw new IndexOutOfBoundsException("no such rail");
        }
        if (what < 0 || what >= RAIL_NUMBERS) {
            throw new IllegalArgumentException("what is not 0 to 18");
        }
        return now.numberOf(rail, what);
    }

    public int account(int rail, int what) throws IndexOutOfBoundsException, IllegalArgumentException {
        if (!isRail(rail)) {
            throw new IndexOutOfBoundsException("no such rail");
        }
        if (what < 0 || what >= ACCOUNTS) {
            throw new IllegalArgumentException("what is not 0 to 3");
        }
        return now.accounts[rail * ACCOUNTS + what];
    }

    public int entry(int back, int what) throws IllegalArgumentException {
        if (back < 0 || back >= Log.MOST_ENTRIES || what < 0 || what >= Log.WIDTH) {
            throw new IllegalArgumentException("back is not 0 to 15, or what is not 0 to 3");
        }
        return back < now.log.length ? now.log.numberAt(back, what) : NONE;
    }

    public int forget(int rail) throws IndexOutOfBoundsException {
        if (!isRail(rail)) {
            throw new IndexOutOfBoundsException("no such rail");
        }
        save();
        return now.log.removeRail(rail);
    }

    public int count(int what) throws IllegalArgumentException {
        if (what < 0 || what >= COUNTS) {
            throw new IllegalArgumentException("what is not 0 to 9");
        }
        return countOf(what);
    }

    // ---- what would be; nothing is changed

    public int allGoodIn() {
        future.copyFrom(now);
        for (int ticks = 0; ticks <= FORECAST_TICKS; ticks++) {
            if ((future.wanted & ~future.maskOf(GOOD)) == 0) {
                return ticks;
            }
            boolean isFree = !future.isAnyShorted();
            future.passTick();
            if (isFree && future.wasStill()) {
                return NONE; // as no later tick would change anything either
            }
        }
        return NONE;
    }

    public int allOffIn() {
        future.copyFrom(now);
        future.wanted = 0;
        for (int ticks = 0; ticks <= FORECAST_TICKS; ticks++) {
            if (future.isAllOff()) {
                return ticks;
            }
            future.passTick();
        }
        return NONE;
    }

    public int ifShort(int rail, int ticks, int what)
            throws IndexOutOfBoundsException, IllegalArgumentException {
        if (!isRail(rail)) {
            throw new IndexOutOfBoundsException("no such rail");
        }
        if (ticks < 1 || ticks > MOST_SHORT || what < 0 || what > 2) {
            throw new IllegalArgumentException("ticks or what is out of range");
        }
        future.copyFrom(now);
        future.shorted[rail] = ticks;
        int dropped = 0;
        for (int i = 0; i < SHORT_FORECAST_TICKS; i++) {
            future.passTick();
            dropped |= future.justDropped();
        }
        if (what == 0) {
            return dropped;
        }
        return future.maskOf(what == 1 ? GOOD : FAILED);
    }

    public int leastPatience(int rail) throws IndexOutOfBoundsException {
        if (!isRail(rail)) {
            throw new IndexOutOfBoundsException("no such rail");
        }
        return now.leastPatienceOf(rail);
    }

    public double goodShare() {
        int all = now.tickNumber * now.rails;
        if (all == 0) {
            return 0.0;
        }
        int good = 0;
        for (int rail = 0; rail < now.rails; rail++) {
            good += now.accounts[rail * ACCOUNTS + GOOD_TICKS];
        }
        return (double) good / (double) all;
    }

    public long digest() {
        long hash = 2179;
        for (int what = 0; what < COUNTS; what++) {
            hash = 31 * hash + countOf(what);
        }
        for (int rail = 0; rail < now.rails; rail++) {
            hash = hashOfRail(hash, rail);
        }
        hash = hashOfLog(hash);
        hash = 31 * hash + allGoodIn();
        hash = 31 * hash + allOffIn();
        hash = 31 * hash + bitsOfShare(goodShare());
        return hashOfBuffer(hash);
    }

    // ---- what the calls have in common

    private boolean isRail(int rail) {
        return rail >= 0 && rail < now.rails;
    }

    private boolean areRails(int mask) {
        return areBelow(now.rails, mask);
    }

    private static boolean areBelow(int rail, int mask) {
        return (mask & ~((1 << rail) - 1)) == 0;
    }

    private static boolean isInRange(int property, int value) {
        return value >= LEAST[property] && value <= MOST[property];
    }

    private void save() {
        if (savedStates >= MOST_SAVED) {
            dropOldestSaved();
        }
        saved[savedStates].copyFrom(now);
        savedStates++;
    }

    /** The oldest one's room goes to the end, to be used again. */
    private void dropOldestSaved() {
        Plant oldest = saved[0];
        for (int i = 1; i < MOST_SAVED; i++) {
            saved[i - 1] = saved[i];
        }
        saved[MOST_SAVED - 1] = oldest;
        savedStates = MOST_SAVED - 1;
    }

    /** Returns the index of the first syntax error, or the buffer's length. */
    private int readBuffer() {
        reader.begin();
        for (int i = 0; i < bufferLength; i++) {
            if (!reader.take(buffer[i])) {
                return i;
            }
        }
        return bufferLength;
    }

    /** Of a buffer that is a complete text; false if the rails in it can't be added. */
    private boolean addTextToFuture() {
        future.copyFrom(now);
        reader.begin();
        for (int i = 0; i < bufferLength; i++) {
            if (buffer[i] == ';' && !addReadRailToFuture()) {
                return false;
            }
            reader.take(buffer[i]);
        }
        return addReadRailToFuture();
    }

    private boolean addReadRailToFuture() {
        if (future.rails >= MOST_RAILS || !areBelow(future.rails, reader.needs)) {
            return false;
        }
        future.add(reader.numbers[TARGET], reader.numbers[RISE], reader.numbers[FALL], reader.needs);
        return true;
    }

    private int countOf(int what) {
        switch (what) {
            case 0: return now.rails;
            case 1: return now.tickNumber;
            case 2: return now.residue;
            case 3: return now.wanted;
            case 4: return now.maskOf(GOOD);
            case 5: return now.maskOf(FAILED);
            case 6: return now.log.length;
            case 7: return now.sumOfVoltages();
            case 8: return savedStates;
            default:
                future.copyFrom(now);
                future.passTick();
                return future.wasStill() ? 1 : 0;
        }
    }

    private long hashOfRail(long start, int rail) {
        long hash = start;
        for (int what = 0; what < RAIL_NUMBERS; what++) {
            hash = 31 * hash + now.numberOf(rail, what);
        }
        for (int what = 0; what < ACCOUNTS; what++) {
            hash = 31 * hash + now.accounts[rail * ACCOUNTS + what];
        }
        return 31 * hash + now.leastPatienceOf(rail);
    }

    private long hashOfLog(long start) {
        long hash = start;
        for (int back = 0; back < now.log.length; back++) {
            for (int what = 0; what < Log.WIDTH; what++) {
                hash = 31 * hash + now.log.numberAt(back, what);
            }
        }
        return hash;
    }

    private long hashOfBuffer(long start) {
        long hash = 31 * start + bufferLength;
        for (int i = 0; i < bufferLength; i++) {
            hash = 31 * hash + buffer[i];
        }
        return hash;
    }

    /** Double.doubleToLongBits of a share, 0 to 1, made by arithmetic as LANGUAGE.md lists no such call. */
    private static long bitsOfShare(double share) {
        if (share <= 0.0) {
            return 0L;
        }
        double significand = share;
        long exponent = 1023;
        for (int i = 0; i < 1022 && significand < 1.0; i++) {
            significand = significand * 2.0;
            exponent--;
        }
        long fraction = (long) ((significand - 1.0) * (double) (1L << 52));
        return (exponent << 52) + fraction;
    }

    /** All that undo restores: the rails, their accounts, the tick, the residue and the log. */
    private static final class Plant {
        int rails;
        int tickNumber;
        int residue = 100;
        /** A bit mask. */
        int wanted;
        final int[] properties = new int[MOST_RAILS * PROPERTIES];
        final int[] needs = new int[MOST_RAILS];
        final int[] state = new int[MOST_RAILS];
        final int[] voltage = new int[MOST_RAILS];
        final int[] stuck = new int[MOST_RAILS];
        final int[] shorted = new int[MOST_RAILS];
        final int[] time = new int[MOST_RAILS];
        final int[] failures = new int[MOST_RAILS];
        /** A rail's blame is never a later rail, as rails need and follow earlier ones alone. */
        final int[] blame = new int[MOST_RAILS];
        final int[] accounts = new int[MOST_RAILS * ACCOUNTS];
        final Log log = new Log();
        final int[] stateBefore = new int[MOST_RAILS];
        final int[] voltageBefore = new int[MOST_RAILS];
        final int[] timeBefore = new int[MOST_RAILS];

        /** All but what was before the latest tick, which has a meaning only right behind it. */
        void copyFrom(Plant other) {
            rails = other.rails;
            tickNumber = other.tickNumber;
            residue = other.residue;
            wanted = other.wanted;
            System.arraycopy(other.properties, 0, properties, 0, MOST_RAILS * PROPERTIES);
            System.arraycopy(other.needs, 0, needs, 0, MOST_RAILS);
            System.arraycopy(other.state, 0, state, 0, MOST_RAILS);
            System.arraycopy(other.voltage, 0, voltage, 0, MOST_RAILS);
            System.arraycopy(other.stuck, 0, stuck, 0, MOST_RAILS);
            System.arraycopy(other.shorted, 0, shorted, 0, MOST_RAILS);
            System.arraycopy(other.time, 0, time, 0, MOST_RAILS);
            System.arraycopy(other.failures, 0, failures, 0, MOST_RAILS);
            System.arraycopy(other.blame, 0, blame, 0, MOST_RAILS);
            System.arraycopy(other.accounts, 0, accounts, 0, MOST_RAILS * ACCOUNTS);
            log.copyFrom(other.log);
        }

        /** Only where there is room for one more rail. */
        void add(int target, int rise, int fall, int neededRails) {
            int rail = rails;
            int first = rail * PROPERTIES;
            properties[first + TARGET] = target;
            properties[first + RISE] = rise;
            properties[first + FALL] = fall;
            properties[first + THRESHOLD] = 90;
            properties[first + DELAY] = 2;
            properties[first + PATIENCE] = 40;
            properties[first + TRIES] = 2;
            needs[rail] = neededRails;
            state[rail] = OFF;
            voltage[rail] = 0;
            stuck[rail] = 0;
            shorted[rail] = 0;
            time[rail] = 0;
            failures[rail] = 0;
            blame[rail] = NONE;
            for (int what = 0; what < ACCOUNTS; what++) {
                accounts[rail * ACCOUNTS + what] = 0;
            }
            rails++;
        }

        // ---- what a rail is

        int propertyOf(int rail, int property) {
            return properties[rail * PROPERTIES + property];
        }

        boolean isWanted(int rail) {
            return (wanted & 1 << rail) != 0;
        }

        boolean isDischarged(int rail) {
            return voltage[rail] <= residue;
        }

        boolean hasFlag(int rail) {
            if (stuck[rail] != 0) {
                return stuck[rail] == STUCK_TRUE;
            }
            int first = rail * PROPERTIES;
            return voltage[rail] * 100 >= properties[first + TARGET] * properties[first + THRESHOLD];
        }

        int numberOf(int rail, int what) {
            switch (what) {
                case 7: return needs[rail];
                case 8: return withFollowers(1 << rail) & ~(1 << rail);
                case 9: return isWanted(rail) ? 1 : 0;
                case 10: return state[rail];
                case 11: return voltage[rail];
                case 12: return hasFlag(rail) ? 1 : 0;
                case 13: return stuck[rail];
                case 14: return shorted[rail];
                case 15: return time[rail];
                case 16: return failures[rail];
                case 17: return blame[rail];
                case 18: return firstBlameOf(rail);
                default: return propertyOf(rail, what);
            }
        }

        int firstBlameOf(int rail) {
            if (blame[rail] == NONE) {
                return NONE;
            }
            int last = rail;
            for (int i = 0; i < MOST_RAILS && blame[last] != NONE; i++) {
                last = blame[last]; // one that blames itself stays
            }
            return last;
        }

        /** A flag that comes in the n-th tick of rising finds the time n - 1, which the patience must be above. */
        int leastPatienceOf(int rail) {
            int due = propertyOf(rail, TARGET) * propertyOf(rail, THRESHOLD);
            int rise = propertyOf(rail, RISE) * 100;
            for (int ticks = LEAST[PATIENCE]; ticks <= MOST[PATIENCE]; ticks++) {
                if (ticks * rise >= due) {
                    return ticks;
                }
            }
            return NONE;
        }

        // ---- what the rails are together

        /** One way down is enough, as needed rails have lower numbers. */
        int withAllNeeded(int mask) {
            int all = mask;
            for (int rail = rails - 1; rail >= 0; rail--) {
                if ((all & 1 << rail) != 0) {
                    all |= needs[rail];
                }
            }
            return all;
        }

        /** One way up is enough, as users have higher numbers. */
        int withFollowers(int mask) {
            int all = mask;
            for (int rail = 0; rail < rails; rail++) {
                if ((all & needs[rail]) != 0) {
                    all |= 1 << rail;
                }
            }
            return all;
        }

        int maskOf(int wantedState) {
            int mask = 0;
            for (int rail = 0; rail < rails; rail++) {
                if (state[rail] == wantedState) {
                    mask |= 1 << rail;
                }
            }
            return mask;
        }

        int sumOfVoltages() {
            int sum = 0;
            for (int rail = 0; rail < rails; rail++) {
                sum += voltage[rail];
            }
            return sum;
        }

        boolean isAnyShorted() {
            for (int rail = 0; rail < rails; rail++) {
                if (shorted[rail] > 0) {
                    return true;
                }
            }
            return false;
        }

        boolean isAllOff() {
            for (int rail = 0; rail < rails; rail++) {
                if (state[rail] != OFF || !isDischarged(rail)) {
                    return false;
                }
            }
            return true;
        }

        // ---- a tick

        /** Returns how many states changed. */
        int passTick() {
            rememberBefore();
            moveVoltages();
            int changes = 0;
            for (int rail = 0; rail < rails; rail++) {
                int next = nextState(rail);
                if (next != state[rail]) {
                    become(rail, next);
                    changes++;
                }
            }
            endTick();
            return changes;
        }

        void rememberBefore() {
            System.arraycopy(state, 0, stateBefore, 0, MOST_RAILS);
            System.arraycopy(voltage, 0, voltageBefore, 0, MOST_RAILS);
            System.arraycopy(time, 0, timeBefore, 0, MOST_RAILS);
        }

        void moveVoltages() {
            for (int rail = 0; rail < rails; rail++) {
                boolean isFed = (state[rail] == RISING || state[rail] == GOOD) && shorted[rail] == 0;
                int goal = isFed ? propertyOf(rail, TARGET) : 0;
                int step = propertyOf(rail, isFed ? RISE : FALL);
                voltage[rail] = voltage[rail] < goal
                        ? Math.min(goal, voltage[rail] + step)
                        : Math.max(goal, voltage[rail] - step);
            }
        }

        /** Changes the rail's time, failures and blame too, and the account of its failures. */
        int nextState(int rail) {
            switch (state[rail]) {
                case OFF: return afterOff(rail);
                case WAITING: return afterWaiting(rail);
                case RISING: return afterRising(rail);
                case GOOD: return afterGood(rail);
                case FALLING: return afterFalling(rail);
                default: return !isWanted(rail) && isDischarged(rail) ? OFF : FAILED;
            }
        }

        int afterOff(int rail) {
            if (!isWanted(rail)) {
                return OFF;
            }
            time[rail] = 0;
            failures[rail] = 0;
            return WAITING;
        }

        int afterWaiting(int rail) {
            if (!isWanted(rail)) {
                return OFF;
            }
            if (!isDischarged(rail) || lowestBadNeed(rail) != NONE) {
                time[rail] = 0;
                return WAITING;
            }
            time[rail]++;
            if (time[rail] <= propertyOf(rail, DELAY)) {
                return WAITING;
            }
            time[rail] = 0;
            return RISING;
        }

        int afterRising(int rail) {
            if (!isWanted(rail)) {
                blame[rail] = NONE;
                return FALLING;
            }
            int bad = lowestBadNeed(rail);
            if (bad != NONE) {
                blame[rail] = bad;
                return FALLING;
            }
            if (hasFlag(rail)) {
                blame[rail] = NONE;
                return GOOD;
            }
            time[rail]++;
            return time[rail] >= propertyOf(rail, PATIENCE) ? afterFailure(rail) : RISING;
        }

        int afterGood(int rail) {
            int bad = lowestBadNeed(rail);
            if (bad != NONE) {
                blame[rail] = bad;
                return FALLING;
            }
            if (!hasFlag(rail)) {
                return afterFailure(rail);
            }
            if (!isWanted(rail) && areUsersAtRest(rail)) {
                blame[rail] = NONE;
                return FALLING;
            }
            return GOOD;
        }

        int afterFalling(int rail) {
            if (!isDischarged(rail)) {
                return FALLING;
            }
            if (!isWanted(rail)) {
                return OFF;
            }
            time[rail] = 0;
            return WAITING;
        }

        int afterFailure(int rail) {
            blame[rail] = rail;
            failures[rail]++;
            accounts[rail * ACCOUNTS + FAILURES_IN_ALL]++;
            return failures[rail] >= propertyOf(rail, TRIES) ? FAILED : FALLING;
        }

        int lowestBadNeed(int rail) {
            for (int need = 0; need < rail; need++) {
                boolean isNeeded = (needs[rail] & 1 << need) != 0;
                if (isNeeded && (stateBefore[need] != GOOD || !hasFlag(need))) {
                    return need;
                }
            }
            return NONE;
        }

        boolean areUsersAtRest(int rail) {
            for (int user = rail + 1; user < rails; user++) {
                boolean isUser = (needs[user] & 1 << rail) != 0;
                boolean isOut = stateBefore[user] == OFF || stateBefore[user] == FAILED;
                if (isUser && !(isOut && isDischarged(user))) {
                    return false;
                }
            }
            return true;
        }

        void become(int rail, int next) {
            state[rail] = next;
            if (next == RISING) {
                accounts[rail * ACCOUNTS + BECAME_RISING]++;
            }
            if (next == GOOD) {
                accounts[rail * ACCOUNTS + BECAME_GOOD]++;
            }
            log.enter(tickNumber, rail, next, blame[rail]);
        }

        void endTick() {
            for (int rail = 0; rail < rails; rail++) {
                if (shorted[rail] > 0) {
                    shorted[rail]--;
                }
                if (state[rail] == GOOD) {
                    accounts[rail * ACCOUNTS + GOOD_TICKS]++;
                }
            }
            tickNumber++;
        }

        // ---- right behind a tick

        boolean wasStill() {
            for (int rail = 0; rail < rails; rail++) {
                if (state[rail] != stateBefore[rail] || voltage[rail] != voltageBefore[rail]
                        || time[rail] != timeBefore[rail]) {
                    return false;
                }
            }
            return true;
        }

        int justDropped() {
            int mask = 0;
            for (int rail = 0; rail < rails; rail++) {
                boolean isDown = state[rail] == FALLING || state[rail] == FAILED;
                if (isDown && state[rail] != stateBefore[rail]) {
                    mask |= 1 << rail;
                }
            }
            return mask;
        }

        // ---- between ticks

        /** Returns how many rails become falling. */
        int dropForRestart(int cause) {
            int group = withFollowers(1 << cause);
            int dropped = 0;
            for (int rail = cause; rail < rails; rail++) {
                if ((group & 1 << rail) != 0 && isToDrop(rail)) {
                    blame[rail] = cause;
                    failures[rail] = 0;
                    become(rail, FALLING);
                    dropped++;
                }
            }
            return dropped;
        }

        boolean isToDrop(int rail) {
            return state[rail] == RISING || state[rail] == GOOD
                    || state[rail] == FAILED && isWanted(rail);
        }
    }

    /** The latest changes of states, the newest one first. */
    private static final class Log {
        static final int MOST_ENTRIES = 16;
        static final int WIDTH = 4;
        private static final int RAIL = 1;

        final int[] numbers = new int[MOST_ENTRIES * WIDTH];
        int length;

        void copyFrom(Log other) {
            length = other.length;
            System.arraycopy(other.numbers, 0, numbers, 0, MOST_ENTRIES * WIDTH);
        }

        void enter(int tickNumber, int rail, int state, int blame) {
            System.arraycopy(numbers, 0, numbers, WIDTH, (MOST_ENTRIES - 1) * WIDTH);
            numbers[0] = tickNumber;
            numbers[RAIL] = rail;
            numbers[2] = state;
            numbers[3] = blame;
            length = Math.min(length + 1, MOST_ENTRIES);
        }

        int numberAt(int back, int what) {
            return numbers[back * WIDTH + what];
        }

        /** Returns how many entries are removed. */
        int removeRail(int rail) {
            int kept = 0;
            for (int back = 0; back < length; back++) {
                if (numberAt(back, RAIL) != rail) {
                    System.arraycopy(numbers, back * WIDTH, numbers, kept * WIDTH, WIDTH);
                    kept++;
                }
            }
            int removed = length - kept;
            length = kept;
            return removed;
        }
    }

    /** Reads a text character by character, and holds the rail that it is at. */
    private static final class TextReader {
        private static final int NEEDS = 3;
        private static final int HIGHEST_DIGIT = 6;

        /** The target, the rise and the fall, each 0 until its first digit. */
        final int[] numbers = new int[NEEDS];
        /** A bit mask. */
        int needs;
        /** TARGET, RISE, FALL or NEEDS. */
        private int part;
        private int latestNeed;

        void begin() {
            for (int i = 0; i < NEEDS; i++) {
                numbers[i] = 0;
            }
            needs = 0;
            part = TARGET;
            latestNeed = NONE;
        }

        /** False, and nothing is taken, if no text goes on with this character. */
        boolean take(int code) {
            if (code >= '0' && code <= '9') {
                return part == NEEDS ? takeNeed(code - '0') : takeDigit(code - '0');
            }
            if (code == '/') {
                return (part == TARGET || part == RISE) && takePart(part + 1);
            }
            if (code == '<') {
                return part == FALL && takePart(NEEDS);
            }
            if (code == ';' && isAtEndOfRail()) {
                begin();
                return true;
            }
            return false;
        }

        boolean isAtEndOfRail() {
            if (part == NEEDS) {
                return latestNeed != NONE;
            }
            return part == FALL && isNumberComplete();
        }

        /** Below the least number a further digit is always possible, so only the most is looked at. */
        private boolean takeDigit(int digit) {
            int number = numbers[part] * 10 + digit;
            if (number == 0 || number > MOST[part]) {
                return false;
            }
            numbers[part] = number;
            return true;
        }

        private boolean takeNeed(int digit) {
            if (digit > HIGHEST_DIGIT || digit <= latestNeed) {
                return false;
            }
            needs |= 1 << digit;
            latestNeed = digit;
            return true;
        }

        private boolean takePart(int next) {
            if (!isNumberComplete()) {
                return false;
            }
            part = next;
            return true;
        }

        private boolean isNumberComplete() {
            return numbers[part] >= LEAST[part];
        }
    }
}
