import java.util.function.Supplier;
import java.util.function.ToIntFunction;

/** The boundary cases of the text and of promises 19 to 21, sentence by sentence: type, clear, run. */
public final class TextEdgesTest {
    private static final int NONE = LabelPlacer.NONE, BAD = LabelPlacer.BAD, STATE = LabelPlacer.STATE,
            FULL = LabelPlacer.FULL;
    private static final int MIN = Integer.MIN_VALUE, MAX = Integer.MAX_VALUE;
    private static final String[] COMMANDS = {"point 1 1 1 1 1", "window 0 0 10 10", "pan 0 0", "label", "improve", "hide"};

    public static void main(String[] args) {
        bytesOfTheText();
        lengthOfTheText();
        typeIntoAFullText();
        clearOfTheText();
        textOfEightyBytes();
        sixCommands();
        wordsLetterByLetter();
        wordsAreTheLongest();
        numbersOfThreeDigits();
        numbersAreTheLongest();
        numbersWithoutSign();
        wholesWithSign();
        blanksAroundAll();
        blanksAreByte32();
        blanksInsideNothing();
        numbersBegin();
        signsBegin();
        faultOfAByte();
        faultOfAnotherWord();
        faultOfAnotherWordLater();
        faultOfAnEnd();
        faultOfTooMuch();
        faultOfTheFirst();
        faultAtTheEnds();
        runStandsForAddPoint();
        runStandsForSetWindow();
        runStandsForPan();
        runStandsForTheOthers();
        runIsLikeTheCall();
        runEmptiesTheText();
        runLeavesTheText();
        Due.end();
    }

    private static LabelPlacer typed(String text) {
        LabelPlacer x = new LabelPlacer();
        Due.type(x, text);
        return x;
    }

    private static void faultIs(String text, int fault) {
        LabelPlacer x = typed(text);
        long before = x.digest();
        Due.is("run() of '" + text + "'", x.run(), -2000 - fault);
        Due.is("'" + text + "' stays, and nothing is done", x.digest(), before);
    }

    private static void answerIs(String text, int due) {
        LabelPlacer x = typed(text);
        Due.is("run() of '" + text + "'", x.run(), due);
        Due.is("'" + text + "' is emptied", x.count(11), 0);
    }

    /** Promise 19: "letter: 0 to 127", "BAD" */
    private static void bytesOfTheText() {
        for (int letter = -2; letter <= 258; letter++) {
            LabelPlacer x = new LabelPlacer();
            boolean right = letter >= 0 && letter <= 127;
            Due.is("type(" + letter + ")", x.type(letter), right ? 1 : BAD);
            Due.is("bytes then", x.count(11), right ? 1 : 0);
        }
        Due.is("type(MIN)", new LabelPlacer().type(MIN), BAD);
        Due.is("type(MAX)", new LabelPlacer().type(MAX), BAD);
    }

    /** Promise 19: "Appends a byte to the text.", "Returns the length of the text then" */
    private static void lengthOfTheText() {
        LabelPlacer x = new LabelPlacer();
        for (int i = 1; i <= 80; i++) {
            Due.is("byte " + i, x.type(i), i);
            Due.is("count(11)", x.count(11), i);
        }
        LabelPlacer y = typed("hid");
        y.type('e');
        Due.is("the last byte belongs to it", y.run(), 0);
    }

    /** Promise 19: "FULL if it has 80 bytes" */
    private static void typeIntoAFullText() {
        LabelPlacer x = typed("hide" + " ".repeat(75));
        Due.is("79 bytes", x.count(11), 79);
        Due.is("byte 80", x.type(' '), 80);
        for (int letter : new int[] {0, 'x', 127}) {
            Due.is("byte 81", x.type(letter), FULL);
        }
        Due.is("80 bytes", x.count(11), 80);
        Due.is("those that were refused do not belong to it", x.run(), 0);
        Due.is("room again", x.type('x'), 1);
    }

    /** Promise 20: "Empties the text.", "Returns the length that it had." */
    private static void clearOfTheText() {
        Due.is("of nothing", new LabelPlacer().clear(), 0);
        for (int n : new int[] {1, 2, 79, 80}) {
            LabelPlacer x = typed("a".repeat(n));
            Due.is("of " + n + " bytes", x.clear(), n);
            Due.is("count(11)", x.count(11), 0);
            Due.is("again", x.clear(), 0);
            Due.type(x, "hide");
            Due.is("what was there does not come back", x.run(), 0);
        }
    }

    /** "A text of at most 80 bytes describes a command" */
    private static void textOfEightyBytes() {
        for (String command : COMMANDS) {
            int blanks = 80 - command.length();
            String behind = command + " ".repeat(blanks);
            String before = " ".repeat(blanks) + command;
            Due.is("bytes", behind.length(), 80);
            Due.is("'" + behind + "'", typed(behind).run(), 0);
            Due.is("'" + before + "'", typed(before).run(), 0);
        }
        faultIs(" ".repeat(80), 80);
        faultIs(" ".repeat(79) + "x", 79);
        faultIs("pan 1" + " ".repeat(75), 80);
        faultIs("x".repeat(80), 0);
        faultIs("pan " + "1".repeat(76), 7);
    }

    /** "command = "point" ... | "window" ... | "pan" ... | "label" | "improve" | "hide"" */
    private static void sixCommands() {
        for (String command : COMMANDS) {
            answerIs(command, 0);
        }
        for (String other : new String[] {"fill", "push", "hideall", "show", "greatest", "leaders", "clear", "run", "count",
            "remove", "set", "labels", "improves", "hides", "pans", "windows", "points"}) {
            faultIs(other, 0);
            faultIs(other + " 1 1 1 1 1", 0);
        }
        faultIs("LABEL", 0);
        faultIs("Label", 0);
    }

    /** The same: each letter of a word matters. */
    private static void wordsLetterByLetter() {
        for (String command : COMMANDS) {
            int end = command.indexOf(' ') < 0 ? command.length() : command.indexOf(' ');
            for (int i = 0; i < end; i++) {
                faultIs(command.substring(0, i) + 'q' + command.substring(i + 1), 0);
                faultIs(command.substring(0, i) + command.substring(i + 1), 0);
                int big = command.charAt(i) - 'a' + 'A';
                faultIs(command.substring(0, i) + (char) big + command.substring(i + 1), 0);
            }
        }
    }

    /** "The words are read as the longest possible sequences of small letters" */
    private static void wordsAreTheLongest() {
        for (String word : new String[] {"point", "window", "pan", "label", "improve", "hide"}) {
            faultIs(word + "a", 0);
            faultIs(word + "z 1 1 1 1 1", 0);
            faultIs("  " + word + word, 2);
            faultIs(word.substring(0, word.length() - 1), 0);
            faultIs(word.substring(1), 0);
            faultIs(word.substring(0, 1), 0);
        }
        faultIs("panlabel", 0);
        faultIs("labelpan 1 1", 0);
        // What is no small letter ends the word: '`' and '{' are the bytes beside 'a' and 'z'.
        faultIs("label`", 5);
        faultIs("label{", 5);
        faultIs("labelA", 5);
        faultIs("labelZ", 5);
        faultIs("pan@1 1", 3);
    }

    /** "numbers as the longest possible sequences of at most 3 digits" */
    private static void numbersOfThreeDigits() {
        answerIs("pan 0 0", 0);
        answerIs("pan 00 000", 0);
        answerIs("pan 140 160", 0);
        answerIs("pan 999 0", BAD);
        answerIs("window 000 000 010 010", 0);
        faultIs("pan 1000 0", 7);
        faultIs("pan 0000 0", 7);
        faultIs("pan 0 0000", 9);
        faultIs("window 0 0 10 0010", 17);
        faultIs("point 1 1 1 1 0001", 17);
    }

    /** The same: two numbers do not stand one directly behind the other, however they could be cut. */
    private static void numbersAreTheLongest() {
        faultIs("pan 12", 6);
        faultIs("pan 123456", 7);
        faultIs("pan123456", 6);
        faultIs("pan 12 3456", 10);
        faultIs("point 11111", 9);
        LabelPlacer x = typed("pan 12 34");
        x.run();
        Due.is("two digits", x.count(6), 12);
        Due.is("two digits", x.count(7), 34);
        LabelPlacer y = typed("pan 123 045");
        y.run();
        Due.is("three digits", y.count(6), 123);
        Due.is("three digits", y.count(7), 45);
    }

    /** ""point" number number number number number | "window" number number number number": without "-" */
    private static void numbersWithoutSign() {
        faultIs("point -1 1 1 1 1", 6);
        faultIs("point 1 1 1 1 -1", 14);
        faultIs("point-1 1 1 1 1", 5);
        faultIs("point 1-1 1 1 1", 7);
        faultIs("window -0 0 10 10", 7);
        faultIs("window 0 0 10 -10", 14);
        faultIs("window 0 0 10-10", 13);
        faultIs("label -", 6);
        faultIs("- label", 0);
    }

    /** ""pan" whole whole", "whole = [ "-" ] number" */
    private static void wholesWithSign() {
        int[][] due = {{10, 20}, {-10, 20}, {10, -20}, {-10, -20}, {0, 0}};
        String[] texts = {"pan 10 20", "pan -10 20", "pan 10 -20", "pan -10 -20", "pan -0 -000"};
        for (int i = 0; i < texts.length; i++) {
            LabelPlacer x = new LabelPlacer();
            x.setWindow(50, 60, 20, 20);
            Due.type(x, texts[i]);
            Due.is(texts[i], x.run(), 0);
            Due.is(texts[i] + ": x", x.count(6), 50 + due[i][0]);
            Due.is(texts[i] + ": y", x.count(7), 60 + due[i][1]);
        }
        faultIs("pan --1 1", 5);
        faultIs("pan - -1 1", 6);
        faultIs("pan 1 1-", 7);
        faultIs("pan 1 1 -1", 8);
        faultIs("pan +1 1", 4);
        answerIs("pan -999 -999", BAD);
    }

    /** "Blanks (byte 32) can stand before and after words, numbers and "-"" */
    private static void blanksAroundAll() {
        answerIs(" pan 0 0", 0);
        answerIs("pan 0 0 ", 0);
        answerIs("   pan   0   0   ", 0);
        answerIs("pan - 0 - 0", 0);
        answerIs("pan -  0  -  0  ", 0);
        answerIs("pan 0 -0", 0);
        answerIs("pan 0- 0", 0);
        answerIs("  point  1  1  1  1  1  ", 0);
        answerIs(" window 0 0 10 10 ", 0);
        answerIs("  label", 0);
        answerIs("improve  ", 0);
        answerIs("  hide  ", 0);
    }

    /** The same: "(byte 32)", and no other. */
    private static void blanksAreByte32() {
        for (int b = 0; b <= 127; b++) {
            char c = (char) b;
            if (b == ' ') {
                continue;
            }
            boolean letter = c >= 'a' && c <= 'z';
            faultIs(c + "hide", 0);
            faultIs("hide" + c, letter ? 0 : 4);
            faultIs("hide " + c, 5);
        }
    }

    private static void blanksInsideNothing() {
        faultIs("la bel", 0);
        faultIs("hid e", 0);
        faultIs("improv e", 0);
        // A number with a blank in it is two numbers.
        faultIs("pan 1 2 3", 8);
        faultIs("window 1 0 0 1 0 10", 15);
    }

    /** "a number begins behind a blank, a "-" or a letter" */
    private static void numbersBegin() {
        answerIs("pan0 0", 0);
        answerIs("pan 0 0", 0);
        answerIs("pan-0 0", 0);
        answerIs("pan0-0", 0);
        answerIs("window0 0 10 10", 0);
        answerIs("point1 1 1 1 1", 0);
        faultIs("pan,0 0", 3);
        faultIs("pan 0,0", 5);
        faultIs("pan\t0 0", 3);
        faultIs("pan 0\t0", 5);
        faultIs("pan 0000", 7);
    }

    /** "a "-" also directly behind a digit" */
    private static void signsBegin() {
        answerIs("pan 0-0", 0);
        answerIs("pan 000-0", 0);
        answerIs("pan-0-0", 0);
        answerIs("pan -0-0", 0);
        answerIs("pan 0 -0", 0);
        faultIs("pan 0000-0", 7);
        faultIs("pan--0 0", 4);
        faultIs("pan 0--0", 6);
        faultIs("pan 0-0-0", 7);
        LabelPlacer x = new LabelPlacer();
        x.setWindow(50, 60, 20, 20);
        Due.type(x, "pan 7-9");
        x.run();
        Due.is("7", x.count(6), 57);
        Due.is("-9", x.count(7), 51);
    }

    /** "the index, from 0, of the first byte that cannot stand at its place" */
    private static void faultOfAByte() {
        faultIs("1", 0);
        faultIs("-", 0);
        faultIs("*", 0);
        faultIs("  1 label", 2);
        faultIs("pan x", 4);
        faultIs("pan 1 x", 6);
        faultIs("pan 1x", 5);
        faultIs("pan 1 2x", 7);
        faultIs("pan - x", 6);
        faultIs("pan -x", 5);
        faultIs("window 1 2 3 .", 13);
        faultIs("point 1 2 3 4 /", 14);
        faultIs("point 1 2 3 4 :", 14);
        faultIs("point 1 2 3 4 5:", 15);
        faultIs("point 1 2 3 4 5/", 15);
    }

    /** "which for another word is its first byte" */
    private static void faultOfAnotherWord() {
        faultIs("pa", 0);
        faultIs("p", 0);
        faultIs("   p", 3);
        faultIs("  labels  ", 2);
        faultIs("poin", 0);
        faultIs("poind 1", 0);
        faultIs("abc", 0);
        faultIs("z", 0);
    }

    /** The same of a word where none can stand. */
    private static void faultOfAnotherWordLater() {
        faultIs("label label", 6);
        faultIs("label improve", 6);
        faultIs("hide x", 5);
        faultIs("pan 1 2 pan", 8);
        faultIs("pan pan 1 2", 4);
        faultIs("window 1 abc", 9);
        faultIs("improve 1 abc", 8);
    }

    /** "or the length of the text if it ends too early" */
    private static void faultOfAnEnd() {
        faultIs("", 0);
        faultIs(" ", 1);
        String point = "point 1 1 1 1 ";
        for (int end : new int[] {5, 6, 7, 8, 9, 10, 11, 12, 13, 14}) {
            faultIs(point.substring(0, end), end);
        }
        String window = "window 0 0 10 ";
        for (int end : new int[] {6, 7, 8, 9, 10, 11, 12, 13, 14}) {
            faultIs(window.substring(0, end), end);
        }
        String pan = "pan - 1 - ";
        for (int end : new int[] {3, 4, 5, 6, 7, 8, 9, 10}) {
            faultIs(pan.substring(0, end), end);
        }
        faultIs("pan-", 4);
        faultIs("pan 1-", 6);
    }

    private static void faultOfTooMuch() {
        faultIs("point 1 1 1 1 1 1", 16);
        faultIs("window 0 0 10 10 0", 17);
        faultIs("pan 0 0 0", 8);
        faultIs("label 0", 6);
        faultIs("improve 0", 8);
        faultIs("hide 0", 5);
        faultIs("label0", 5);
        faultIs("improve0", 7);
        faultIs("hide0", 4);
    }

    /** "the first byte that cannot stand": what comes behind it does not matter. */
    private static void faultOfTheFirst() {
        faultIs("pan 1 x y", 6);
        faultIs("pan 1x1000", 5);
        faultIs("labels 1000 x", 0);
        faultIs("window -1 -1 -1 -1", 7);
        faultIs("pan 1 2 3 4000", 8);
    }

    /** "-2000 - p", from the least fault to the greatest */
    private static void faultAtTheEnds() {
        Due.is("the empty text", new LabelPlacer().run(), -2000);
        Due.is("a first byte", typed("?").run(), -2000);
        Due.is("the last byte of 80", typed("hide" + " ".repeat(75) + "?").run(), -2079);
        Due.is("the end of 80", typed(" ".repeat(80)).run(), -2080);
    }

    /** "They stand for addPoint() with x, y, w, h and the priority, and all sides" */
    private static void runStandsForAddPoint() {
        LabelPlacer x = typed("point 199 198 20 6 9");
        Due.is("its number", x.run(), 0);
        int[] due = {199, 198, 20, 6, 9, 255};
        for (int what = 0; what < 6; what++) {
            Due.is("point(0, " + what + ")", x.point(0, what), due[what]);
        }
        Due.type(x, "point 0 0 1 1 1");
        Due.is("its number", x.run(), 1);
        String[] wrong = {"200 0 1 1 1", "0 200 1 1 1", "0 1 0 1 1", "0 1 21 1 1", "0 1 1 0 1", "0 1 1 7 1", "0 1 1 1 0", "0 1 1 1 10"};
        for (String numbers : wrong) {
            answerIs("point " + numbers, BAD);
        }
        Due.type(x, "point 0 0 20 6 9");
        Due.is("a cell that is taken", x.run(), STATE);
        LabelPlacer y = Scene.full();
        y.clear();
        Due.type(y, "point 0 0 1 1 1");
        Due.is("point 21", y.run(), FULL);
        Due.is("points", y.count(0), 20);
    }

    /** "setWindow()" */
    private static void runStandsForSetWindow() {
        LabelPlacer x = typed("window 100 101 100 99");
        Due.is("visible points", x.run(), 0);
        int[] due = {100, 101, 100, 99};
        for (int i = 0; i < 4; i++) {
            Due.is("count(" + (6 + i) + ")", x.count(6 + i), due[i]);
        }
        for (String numbers : new String[] {"0 0 9 10", "0 0 10 9", "0 0 101 10", "0 0 10 101", "191 0 10 10", "0 191 10 10"}) {
            answerIs("window " + numbers, BAD);
        }
        LabelPlacer y = Scene.full();
        y.clear();
        Due.type(y, "window 0 0 60 40");
        Due.is("twenty", y.run(), 20);
        Due.is("no labels", y.count(4), 0);
    }

    /** "pan()" */
    private static void runStandsForPan() {
        answerIs("pan 140 160", 0);
        answerIs("pan 141 0", BAD);
        answerIs("pan 0 161", BAD);
        answerIs("pan -1 0", BAD);
        answerIs("pan 0 -1", BAD);
        LabelPlacer x = Scene.apart(3, 5);
        Due.type(x, "pan 0 0");
        Due.is("none stays", x.run(), 0);
        Due.is("all get one", x.count(4), 3);
        Due.type(x, "pan 0 0");
        Due.is("all stay", x.run(), 3);
    }

    /** "fill(); improve(); and hideAll()" */
    private static void runStandsForTheOthers() {
        LabelPlacer x = new LabelPlacer();
        x.addPoint(20, 20, 4, 1, 5, 1 + 2);
        x.addPoint(22, 20, 4, 1, 5, 1);
        Due.type(x, "label");
        Due.is("label", x.run(), 1);
        Due.is("the first", x.point(0, 7), 0);
        Due.type(x, "label");
        Due.is("label again", x.run(), 0);
        Due.type(x, "improve");
        Due.is("improve", x.run(), 1);
        Due.is("moved", x.point(0, 7), 1);
        Due.is("in its stead", x.point(1, 7), 0);
        Due.type(x, "hide");
        Due.is("hide", x.run(), 2);
        Due.is("none", x.count(4), 0);
        Due.is("hidden", x.point(0, 7), NONE);
    }

    /** The same on a map where fill(), improve() and push() do different things. */
    private static void runIsLikeTheCall() {
        Supplier<LabelPlacer> map = () -> {
            LabelPlacer x = new LabelPlacer();
            x.addPoint(20, 20, 4, 1, 5, 1 + 2);
            x.addPoint(22, 20, 4, 1, 9, 1 + 4);
            x.addPoint(40, 20, 4, 1, 5, 255);
            x.addPoint(42, 20, 4, 1, 9, 1);
            x.addPoint(140, 20, 4, 1, 9, 255);
            x.show(0, 0);
            x.show(2, 0);
            x.leaders();
            return x;
        };
        runIs(map, "point 50 30 3 2 4", x -> x.addPoint(50, 30, 3, 2, 4, 255));
        runIs(map, "point 21 21 3 2 4", x -> x.addPoint(21, 21, 3, 2, 4, 255));
        runIs(map, "window 21 1 20 30", x -> x.setWindow(21, 1, 20, 30));
        runIs(map, "pan 21 1", x -> x.pan(21, 1));
        runIs(map, "label", LabelPlacer::fill);
        runIs(map, "improve", LabelPlacer::improve);
        runIs(map, "hide", LabelPlacer::hideAll);
        LabelPlacer x = map.get();
        Due.is("fill()", x.fill(), 1);
        Due.is("its side", x.point(1, 7), 2);
        LabelPlacer y = map.get();
        Due.is("improve()", y.improve(), 2);
        Due.is("its side", y.point(1, 7), 0);
    }

    private static void runIs(Supplier<LabelPlacer> map, String command, ToIntFunction<LabelPlacer> call) {
        LabelPlacer x = map.get();
        LabelPlacer y = map.get();
        Due.type(x, command);
        Due.is("run() of '" + command + "'", x.run(), call.applyAsInt(y));
        Due.is("digest() after '" + command + "'", x.digest(), y.digest());
    }

    /** Promise 21: "empties the text, whatever the command returns" */
    private static void runEmptiesTheText() {
        for (String command : new String[] {"point 1 1 1 1 1", "point 1 1 1 1 0", "window 0 0 10 10", "window 0 0 0 0", "pan 0 0",
            "pan -1 0", "label", "improve", "hide"}) {
            LabelPlacer x = typed(command);
            Due.holds("'" + command + "' has no fault", x.run() > -2000);
            Due.is("'" + command + "' is emptied", x.count(11), 0);
            Due.is("nothing is left of it", x.run(), -2000);
        }
    }

    /** Promise 21: "(the text stays, and nothing is done)" */
    private static void runLeavesTheText() {
        LabelPlacer x = typed("pan 1");
        Due.is("run()", x.run(), -2005);
        Due.is("run() again", x.run(), -2005);
        Due.is("count(11)", x.count(11), 5);
        Due.is("count(6)", x.count(6), 0);
        x.type('-');
        Due.is("run()", x.run(), -2006);
        x.type('0');
        Due.is("run() of the whole", x.run(), 0);
        Due.is("count(6)", x.count(6), 1);
        LabelPlacer y = Scene.apart(2, 5);
        y.fill();
        Due.type(y, "hide 1");
        Due.is("run()", y.run(), -2005);
        Due.is("labels", y.count(4), 2);
        Due.is("clear()", y.clear(), 6);
    }
}
