/** The boundary cases of the input text and of promises 12 to 15, sentence by sentence. */
public final class TextBoundsTest extends Check {
    /** Of 7 rails, with 55 characters. */
    private static final String SEVEN = "100/1/1;100/1/1;100/1/1;100/1/1;100/1/1;100/1/1;100/1/1";

    public static void main(String[] args) {
        sixtyCharacters();
        characterCodes();
        appendReturns();
        clearBufferReturns();
        textOfRails();
        numbersInRange();
        leadingZeros();
        neededDigits();
        digitsToSix();
        ofAnyLength();
        railsAreNoSyntax();
        firstOfSeveral();
        loadOrder();
        loadReturns();
        loadIncomplete();
        loadTooMany();
        loadNotEarlier();
        end();
    }

    // ---- the buffer

    private static void sixtyCharacters() {
        sentence("The buffer has at most 60 characters.");
        RailSequence x = new RailSequence();
        for (int length = 1; length <= 60; length++) {
            due("length", length, x.append('1'));
        }
        refuses("the 61st", STATE, x, () -> x.append('1'));
        sentence("Throws `IllegalStateException` if the buffer has 60 characters");
        refuses("the 61st", STATE, x, () -> x.append(33));
        refuses("the 61st", STATE, x, () -> x.append(126));
        refuses("the 61st, of a wrong code", ARGUMENT, x, () -> x.append(127));
        due("the length that it had", 60, x.clearBuffer());
        due("the first one again", 1, x.append('1'));
    }

    private static void characterCodes() {
        sentence("- `code`: the character code, 33 to 126");
        RailSequence x = new RailSequence();
        for (int code = 33; code <= 126; code++) {
            due("length with " + code, 1, x.append(code));
            due("length", 1, x.clearBuffer());
        }
        sentence("Throws `IllegalArgumentException` if code is not 33 to 126");
        int[] wrong = {32, 127, 0, -1, 48 + 256, 48 + 65536, 48 - 65536, Integer.MIN_VALUE, Integer.MAX_VALUE};
        for (int code : wrong) {
            refuses("code " + code, ARGUMENT, x, () -> x.append(code));
        }
    }

    private static void appendReturns() {
        sentence("Returns the new length of the buffer.");
        RailSequence x = new RailSequence();
        due("of the first", 1, x.append('~'));
        due("of the second", 2, x.append('!'));
        x.clearBuffer();
        due("of the first again", 1, x.append('1'));
        sentence("Appends a character to the buffer.");
        type(x, "123/4/5");
        x.load();
        due("target", 123, x.rail(0, 0));
        due("rise", 4, x.rail(0, 1));
        due("fall", 5, x.rail(0, 2));
    }

    private static void clearBufferReturns() {
        sentence("Returns the length that it had.");
        RailSequence x = new RailSequence();
        due("of an empty one", 0, x.clearBuffer());
        type(x, "1");
        due("of one", 1, x.clearBuffer());
        type(x, "~".repeat(60));
        due("of 60", 60, x.clearBuffer());
        due("of an empty one", 0, x.clearBuffer());
        due("firstError then", 0, x.firstError());
    }

    // ---- syntax errors

    /** Those characters alone, of all that there are, are no syntax errors behind the text. */
    private static void next(String text, String allowed) {
        RailSequence x = new RailSequence();
        StringBuilder got = new StringBuilder();
        for (char c = 33; c <= 126; c++) {
            type(x, text + c);
            int error = x.firstError();
            if (error == text.length() + 1) {
                got.append(c);
            } else {
                due("first error of " + text + c, text.length(), error);
            }
        }
        dueText("what can follow on " + text, allowed, got.toString());
    }

    private static void textOfRails() {
        sentence("A text is one or more rails separated by \";\", each written as its target, \"/\", its rise, \"/\", "
                + "its fall, and possibly \"<\" and one or more digits:");
        next("", "123456789");
        next("1000", "/");
        next("1000/", "123456789");
        next("1000/1000", "/");
        next("1000/1000/", "123456789");
        next("1000/1000/1000", ";<");
        next("1000/1000/1000<", "0123456");
        next("1000/1000/1000<3", "456;");
        next("1000/1000/1000<3;", "123456789");
        next("1000/1000/1000;", "123456789");
        next("1000/1000/1000;1000", "/");
        next("1000/1000/1000;1000/1000/1000", ";<");
        next("1000/1000/1000<3;1000/1000/1000<", "0123456");
    }

    private static void numbersInRange() {
        sentence("Numbers are without leading zeros, and in their ranges.");
        String any = "0123456789";
        // the target, 100 to 5000: below 100 a digit must follow, above 500 none can
        for (String few : new String[] {"1", "5", "6", "9", "10", "49", "50", "51", "99"}) {
            next(few, any);
        }
        for (String enough : new String[] {"100", "101", "499"}) {
            next(enough, "/" + any);
        }
        next("500", "/0");
        for (String full : new String[] {"501", "510", "600", "999", "1000", "1999", "4999", "5000"}) {
            next(full, "/");
        }
        // the rise and the fall, 1 to 1000
        for (String enough : new String[] {"1", "9", "10", "11", "99"}) {
            next("100/" + enough, "/" + any);
            next("100/1/" + enough, any + ";<");
        }
        next("100/100", "/0");
        next("100/1/100", "0;<");
        for (String full : new String[] {"101", "110", "200", "999", "1000"}) {
            next("100/" + full, "/");
            next("100/1/" + full, ";<");
        }
        // also of a later rail
        next("100/1/1;99", any);
        next("100/1/1;500", "/0");
        next("100/1/1;5000", "/");
        next("100/1/1;100/100", "/0");
        next("100/1/1;100/1/100", "0;<");
        // the limits themselves can be loaded
        RailSequence x = new RailSequence();
        type(x, "100/1/1;5000/1000/1000");
        x.load();
        int[][] limits = {{100, 1, 1}, {5000, 1000, 1000}};
        for (int r = 0; r < 2; r++) {
            for (int what = 0; what < 3; what++) {
                due("property " + what + " of " + r, limits[r][what], x.rail(r, what));
            }
        }
    }

    private static void leadingZeros() {
        sentence("Numbers are without leading zeros");
        String[] begun = {"", "100/", "100/1/", "100/1/1;", "100/1/1<0;", "100/1/1;100/", "100/1/1;100/1/"};
        for (String begin : begun) {
            RailSequence x = new RailSequence();
            type(x, begin + "0");
            due("first error of " + begin + "0", begin.length(), x.firstError());
            type(x, begin + "0100");
            due("first error of " + begin + "0100", begin.length(), x.firstError());
            type(x, begin + "100");
            due("first error of " + begin + "100", begin.length() + 3, x.firstError());
        }
    }

    private static void neededDigits() {
        sentence("the numbers of the rails that it needs (also of those that were there before), all different, "
                + "in ascending order.");
        String[] allowed = {"123456;", "23456;", "3456;", "456;", "56;", "6;", ";"};
        for (int digit = 0; digit <= 6; digit++) {
            next("100/1/1<" + digit, allowed[digit]);
            next("100/1/1;100/1/1<" + digit, allowed[digit]);
        }
        next("100/1/1<01", "23456;");
        next("100/1/1<05", "6;");
        next("100/1/1<0123456", ";");
        // each rail begins anew
        next("100/1/1<6;100/1/1<", "0123456");
        next("100/1/1<6;100/1/1<0", "123456;");
    }

    private static void digitsToSix() {
        sentence("a digit is 0 to 6.)");
        next("100/1/1<", "0123456");
        next("100/1/1<6", ";");
        RailSequence x = new RailSequence();
        for (char digit = '7'; digit <= '9'; digit++) {
            type(x, "100/1/1<" + digit);
            due("first error of <" + digit, 8, x.firstError());
            type(x, "100/1/1<0" + digit);
            due("first error of <0" + digit, 9, x.firstError());
        }
    }

    private static void ofAnyLength() {
        sentence("a character is a syntax error if no text, of any length, begins with the characters before it "
                + "and this character.");
        // each of these begins a text that the buffer has no room for
        dueError(SEVEN + ";5", 57);
        dueError(SEVEN + ";5000", 60);
        dueError(SEVEN + ";500/", 60);
        dueError("1000/1000/1000<0123456;1000/1000/1000<0123456;1000/1000/1000", 60);
        dueError("1000/1000/1000<0123456;1000/1000/1000<0123456;1000/1000/100;", 60);
        dueError("1000/1000/1000<0123456;1000/1000/1000<0123456;1000/1000/10/1", 58);
        dueError("1000/1000/1000<0123456;1000/1000/1000<0123456;1000/1000/1001", 59);
    }

    private static void railsAreNoSyntax() {
        sentence("(Which rails there are is no question of syntax;");
        RailSequence x = new RailSequence();
        type(x, "100/1/1<0123456");
        due("without rails", 15, x.firstError());
        refuses("load", STATE, x, x::load);
        RailSequence y = chain(8);
        type(y, "100/1/1<0123456;100/1/1");
        due("with 8 rails", 23, y.firstError());
        refuses("load", STATE, y, y::load);
    }

    private static void firstOfSeveral() {
        sentence("Returns the index of the first character that is a syntax error; the length of the buffer if there "
                + "is none.");
        dueError("", 0);
        dueError("~", 0);
        dueError("1~~", 1);
        dueError("100~1/1", 3);
        dueError("100/1/1;;0", 8);
        dueError("100/1/1", 7);
        dueError("100/1/1;", 8);
        dueError(SEVEN, 55);
        dueError("~".repeat(60), 0);
        dueError("5000/1000/1000<0123456;5000/1000/1000<0123456;5000/1000/1000", 60);
        dueError("5000/1000/1000<0123456;5000/1000/1000<0123456;5000/1000/100<", 60);
        dueError("5000/1000/1000<0123456;5000/1000/1000<0123456;5000/1000/100/", 59);
    }

    private static void dueError(String text, int want) {
        RailSequence x = new RailSequence();
        type(x, text);
        due("first error of " + text, want, x.firstError());
        due("asked again", want, x.firstError());
        due("length", text.length(), x.clearBuffer());
    }

    // ---- load

    private static void loadOrder() {
        sentence("Adds the rails in the buffer behind the others, and clears the buffer. Undoable.");
        RailSequence x = oneRail();
        type(x, "200/20/2;300/30/3<01;400/40/4<2");
        undoable("load", x, x::load);
        due("undo does not bring the buffer back", 0, x.clearBuffer());
        type(x, "200/20/2;300/30/3<01;400/40/4<2");
        x.load();
        int[][] rails = {{1000, 400, 300, 90, 2, 40, 2, 0}, {200, 20, 2, 90, 2, 40, 2, 0},
            {300, 30, 3, 90, 2, 40, 2, 3}, {400, 40, 4, 90, 2, 40, 2, 4}};
        for (int r = 0; r < 4; r++) {
            for (int what = 0; what < 8; what++) {
                due("rail(" + r + ", " + what + ")", rails[r][what], x.rail(r, what));
            }
            dueRail(x, r, OFF, 0, 0, 0, NONE);
            dueAccounts(x, r, 0, 0, 0, 0);
        }
        due("cleared", 0, x.clearBuffer());
        refuses("nothing to load", ARGUMENT, x, x::load);
        // while the others go on
        RailSequence y = goodChain(2);
        type(y, "1000/1000/500<1");
        y.load();
        due("wanted", 3, y.count(3));
        due("good", 3, y.count(4));
        dueRail(y, 2, OFF, 0, 0, 0, NONE);
    }

    private static void loadReturns() {
        sentence("Returns the number of rails then.");
        RailSequence x = new RailSequence();
        type(x, "100/1/1");
        due("one", 1, x.load());
        type(x, "100/1/1;100/1/1");
        due("two more", 3, x.load());
        RailSequence y = new RailSequence();
        type(y, SEVEN);
        due("seven", 7, y.load());
        type(y, "100/1/1<0123456");
        due("the eighth", 8, y.load());
        due("needs of the eighth", 127, y.rail(7, 7));
    }

    private static void loadIncomplete() {
        sentence("Throws `IllegalArgumentException` if the buffer is not a complete text");
        String[] begun = {"", "1", "99", "100", "5000", "100/", "100/1", "100/1/", "100/1/1<", "100/1/1;", "100/1/1<0;",
            "100/1/1;1", "100/1/1;100", "100/1/1;100/", "100/1/1;100/1", "100/1/1;100/1/", "100/1/1;100/1/1<"};
        String[] wrong = {"0", "99/1/1", "5001/1/1", "100/0/1", "100/1001/1", "100/1/0", "100/1/1001", "0100/1/1",
            "100/01/1", "100/1/01", "100/1/1<7", "100/1/1<00", "100/1/1/", "100/1/1;;100/1/1", ";100/1/1", "100/1/1x",
            "100/1/1<0x", "x100/1/1", "100/1/1<0<0", "100//1/1", "100/1", "100/1/1<0;x", "100/1/1<-", "100/1/1<01<"};
        for (String text : begun) {
            RailSequence x = oneRail();
            type(x, text);
            due("first error of " + text, text.length(), x.firstError());
            refuses("load of " + text, ARGUMENT, x, x::load);
        }
        for (String text : wrong) {
            RailSequence x = oneRail();
            type(x, text);
            refuses("load of " + text, ARGUMENT, x, x::load);
        }
        RailSequence full = chain(8);
        type(full, "100/1/1;");
        refuses("no complete text, of too many rails", ARGUMENT, full, full::load);
        type(full, "100/1/1<");
        refuses("no complete text, of too many rails", ARGUMENT, full, full::load);
        full.clearBuffer();
        refuses("no text, with 8 rails", ARGUMENT, full, full::load);
        RailSequence none = new RailSequence();
        type(none, "100/1/1<0;");
        refuses("no complete text, and a need that is not there", ARGUMENT, none, none::load);
    }

    private static void loadTooMany() {
        sentence("Throws `IllegalStateException` if there would be more than 8 rails");
        for (int before = 0; before <= 8; before++) {
            for (int more = 1; more <= 7; more++) {
                RailSequence x = chain(before);
                type(x, SEVEN.substring(0, more * 8 - 1));
                if (before + more <= 8) {
                    due(before + " rails and " + more, before + more, x.load());
                } else {
                    refuses(before + " rails and " + more, STATE, x, x::load);
                }
            }
        }
    }

    private static void loadNotEarlier() {
        sentence("or one of them needs a rail that is not earlier");
        for (int before = 0; before <= 7; before++) {
            for (int digit = 0; digit <= 6; digit++) {
                dueLoad("100/1/1<" + digit, before, digit < before, 1);
                if (before < 7) {
                    dueLoad("100/1/1;100/1/1<" + digit, before, digit <= before, 2);
                    dueLoad("100/1/1<" + digit + ";100/1/1", before, digit < before, 2);
                }
            }
        }
        // the highest one of several
        dueLoad("100/1/1<012", 3, true, 1);
        dueLoad("100/1/1<013", 3, false, 1);
        // one that is not there any more
        RailSequence x = new RailSequence();
        x.addRail(100, 1, 1, 0);
        x.undo();
        type(x, "100/1/1<0");
        refuses("needs one that was undone", STATE, x, x::load);
    }

    private static void dueLoad(String text, int before, boolean isRight, int more) {
        RailSequence x = chain(before);
        type(x, text);
        if (isRight) {
            due(before + " rails and " + text, before + more, x.load());
        } else {
            refuses(before + " rails and " + text, STATE, x, x::load);
        }
    }
}
