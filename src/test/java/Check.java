import java.io.IOException;
import java.nio.file.Files;
import java.nio.file.Path;
import java.util.ArrayList;
import java.util.List;
import java.util.function.IntSupplier;

/** What the tests by hand have in common: answers that are due, calls that are refused, rails to begin with. */
class Check {
    static final Class<?> INDEX = IndexOutOfBoundsException.class;
    static final Class<?> ARGUMENT = IllegalArgumentException.class;
    static final Class<?> STATE = IllegalStateException.class;
    static final int NONE = RailSequence.NONE;

    static final int OFF = 0;
    static final int WAITING = 1;
    static final int RISING = 2;
    static final int GOOD = 3;
    static final int FALLING = 4;
    static final int FAILED = 5;

    private static final List<String> sentences = new ArrayList<>();
    private static String about = "";
    private static boolean isTested = true;
    private static int wrong = 0;

    // ---- what is tested

    static void about(String what) {
        about = what;
    }

    /** What follows is the test of a sentence, which must stand in the document in these words. */
    static void sentence(String words) {
        endSentence();
        sentences.add(words);
        about(words);
        isTested = false;
    }

    private static void endSentence() {
        if (!isTested) {
            fail("is not tested");
        }
        isTested = true;
    }

    static void fail(String what) {
        wrong++;
        System.out.println(about + ": " + what);
    }

    /** Ends the program, with exit code 1 if something was not as due. */
    static void end() {
        endSentence();
        try {
            String document = Files.readString(Path.of("../shared/DOC.md"));
            for (String words : sentences) {
                if (!document.contains(words)) {
                    about(words);
                    fail("does not stand in the document");
                }
            }
        } catch (IOException e) {
            fail("no document: " + e);
        }
        System.out.println(wrong == 0 ? "all answers are as due" : wrong + " answers are not as due");
        if (wrong != 0) {
            System.exit(1);
        }
    }

    // ---- how answers are looked at

    static void due(String what, long want, long got) {
        isTested = true;
        if (got != want) {
            fail(what + " is " + got + ", due is " + want);
        }
    }

    static void dueText(String what, String want, String got) {
        isTested = true;
        if (!got.equals(want)) {
            fail(what + " is " + got + ", due is " + want);
        }
    }

    static void refuses(String what, Class<?> want, RailSequence x, IntSupplier call) {
        isTested = true;
        long before = x.digest();
        Class<?> got = null;
        try {
            call.getAsInt();
        } catch (RuntimeException e) {
            got = e.getClass();
        }
        if (got != want) {
            fail(what + " throws " + got + ", due is " + want);
        }
        due(what + " changes something: digest", before, x.digest());
    }

    /** The call saves a state, and undo brings everything back that was before it. */
    static void undoable(String what, RailSequence x, IntSupplier call) {
        int saved = x.count(8);
        String before = seen(x);
        call.getAsInt();
        due(what + " saves: count(8)", Math.min(saved + 1, 6), x.count(8));
        due(what + " undone: states left", Math.min(saved, 5), x.undo());
        dueText("after undo of " + what + " all", before, seen(x));
    }

    /** All that undo restores. */
    static String seen(RailSequence x) {
        StringBuilder all = new StringBuilder();
        for (int what = 0; what < 8; what++) {
            all.append(x.count(what)).append(' ');
        }
        for (int r = 0; r < x.count(0); r++) {
            all.append(railText(x, r)).append(' ');
        }
        for (int back = 0; back < 16; back++) {
            all.append(entryText(x, back)).append(' ');
        }
        return all.toString();
    }

    static String railText(RailSequence x, int rail) {
        StringBuilder all = new StringBuilder();
        for (int what = 0; what < 19; what++) {
            all.append(x.rail(rail, what)).append(' ');
        }
        for (int what = 0; what < 4; what++) {
            all.append(x.account(rail, what)).append(' ');
        }
        return all.toString();
    }

    static String entryText(RailSequence x, int back) {
        return x.entry(back, 0) + "," + x.entry(back, 1) + "," + x.entry(back, 2) + "," + x.entry(back, 3);
    }

    static void dueEntry(RailSequence x, int back, int tick, int rail, int state, int blame) {
        dueText("entry " + back, tick + "," + rail + "," + state + "," + blame, entryText(x, back));
    }

    static void dueRail(RailSequence x, int rail, int state, int voltage, int time, int failures, int blame) {
        due("state of " + rail, state, x.rail(rail, 10));
        due("voltage of " + rail, voltage, x.rail(rail, 11));
        due("time of " + rail, time, x.rail(rail, 15));
        due("failures of " + rail, failures, x.rail(rail, 16));
        due("blame of " + rail, blame, x.rail(rail, 17));
    }

    static void dueAccounts(RailSequence x, int rail, int rising, int good, int failures, int ticks) {
        due("how often rising, of " + rail, rising, x.account(rail, 0));
        due("how often good, of " + rail, good, x.account(rail, 1));
        due("failures in all, of " + rail, failures, x.account(rail, 2));
        due("ticks good, of " + rail, ticks, x.account(rail, 3));
    }

    static void dueStates(RailSequence x, int... states) {
        for (int r = 0; r < states.length; r++) {
            due("state of " + r, states[r], x.rail(r, 10));
        }
    }

    /** Put together as the document says, from what the other calls answer; the text is the buffer's. */
    static void dueDigest(String what, RailSequence x, String text) {
        long hash = 2179;
        for (int number = 0; number < 10; number++) {
            hash = 31 * hash + x.count(number);
        }
        for (int r = 0; r < x.count(0); r++) {
            for (int number = 0; number < 19; number++) {
                hash = 31 * hash + x.rail(r, number);
            }
            for (int number = 0; number < 4; number++) {
                hash = 31 * hash + x.account(r, number);
            }
            hash = 31 * hash + x.leastPatience(r);
        }
        for (int back = 0; back < x.count(6); back++) {
            for (int number = 0; number < 4; number++) {
                hash = 31 * hash + x.entry(back, number);
            }
        }
        hash = 31 * hash + x.allGoodIn();
        hash = 31 * hash + x.allOffIn();
        hash = 31 * hash + Double.doubleToLongBits(x.goodShare());
        hash = 31 * hash + text.length();
        for (int i = 0; i < text.length(); i++) {
            hash = 31 * hash + text.charAt(i);
        }
        due("digest of " + what, hash, x.digest());
        due("digest of " + what + ", again", hash, x.digest());
    }

    // ---- rails to begin with

    static void type(RailSequence x, String text) {
        x.clearBuffer();
        for (int i = 0; i < text.length(); i++) {
            x.append(text.charAt(i));
        }
    }

    /** Waits for 2 ticks, rises in 3, and falls in 4. */
    static RailSequence oneRail() {
        RailSequence x = new RailSequence();
        x.addRail(1000, 400, 300, 0);
        return x;
    }

    /** Waiting with the first tick of being wanted, rising with the second. */
    static RailSequence quick(int target, int rise, int fall) {
        RailSequence x = new RailSequence();
        x.addRail(target, rise, fall, 0);
        x.set(0, 4, 0);
        return x;
    }

    /** 0 alone, 1 and 2 on 0, 3 on 1; without delays, rising in one tick and falling in two. */
    static RailSequence fourRails() {
        RailSequence x = new RailSequence();
        x.addRail(1000, 1000, 500, 0);
        x.addRail(1000, 1000, 500, 1);
        x.addRail(1000, 1000, 500, 1);
        x.addRail(1000, 1000, 500, 2);
        for (int r = 0; r < 4; r++) {
            x.set(r, 4, 0);
        }
        return x;
    }

    static RailSequence fourGoodRails() {
        RailSequence x = fourRails();
        x.on(15);
        x.tick(20);
        due("rails good at first", 15, x.count(4));
        return x;
    }

    /** Rails without delays, each one on the one before it, rising in one tick and falling in two. */
    static RailSequence chain(int rails) {
        RailSequence x = new RailSequence();
        for (int r = 0; r < rails; r++) {
            x.addRail(1000, 1000, 500, r == 0 ? 0 : 1 << (r - 1));
            x.set(r, 4, 0);
        }
        return x;
    }

    static RailSequence goodChain(int rails) {
        RailSequence x = chain(rails);
        x.on((1 << rails) - 1);
        x.tick(30);
        due("rails good at first", (1 << rails) - 1, x.count(4));
        return x;
    }
}
