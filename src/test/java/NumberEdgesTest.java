import java.math.BigInteger;
import java.util.ArrayList;
import java.util.List;

/** The boundary cases of promises 22 and 23, sentence by sentence: count, digest. */
public final class NumberEdgesTest {
    private static final int NONE = LabelPlacer.NONE, BAD = LabelPlacer.BAD;
    private static final int MIN = Integer.MIN_VALUE, MAX = Integer.MAX_VALUE;

    public static void main(String[] args) {
        countOfWrongNumbers();
        countOfPoints();
        countOfVisiblePoints();
        countOfPlaces();
        countOfPairs();
        countOfLabels();
        countOfPriorities();
        countOfTheWindow();
        countOfLeaders();
        countOfBytes();
        countOfThoseThatCanPush();
        countOfThoseThatCanPushBesideMany();
        digestAtFirst();
        digestWrapsAround();
        digestOfNegativeNumbers();
        digestOfEachCount();
        digestOfAFullMap();
        digestOfTheText();
        digestOfLeadersThatAreKept();
        digestInTheirOrder();
        Due.end();
    }

    /** Promise 22: "what: 0 ... 12", "BAD" */
    private static void countOfWrongNumbers() {
        for (LabelPlacer x : new LabelPlacer[] {new LabelPlacer(), Scene.busy(), Scene.full()}) {
            for (int what : new int[] {MIN, -2, -1, 13, 14, MAX}) {
                Due.is("count(" + what + ")", x.count(what), BAD);
            }
            for (int what = 0; what <= 12; what++) {
                Due.holds("count(" + what + ")", x.count(what) >= 0);
            }
        }
    }

    /** "0: points" */
    private static void countOfPoints() {
        LabelPlacer x = new LabelPlacer();
        Due.is("none", x.count(0), 0);
        for (int i = 1; i <= 20; i++) {
            x.addPoint(i, 199, 1, 1, 1, 1);
            Due.is("points", x.count(0), i);
        }
        x.addPoint(21, 199, 1, 1, 1, 1);
        Due.is("a refused one", x.count(0), 20);
        x.removePoint(0);
        Due.is("one less", x.count(0), 19);
    }

    /** "1: visible points" */
    private static void countOfVisiblePoints() {
        LabelPlacer x = Scene.apart(20, 5);
        Due.is("all", x.count(1), 20);
        x.setWindow(0, 0, 90, 70);
        Due.is("without the last column and row", x.count(1), 12);
        x.setWindow(0, 0, 91, 71);
        Due.is("with them", x.count(1), 20);
        x.setWindow(100, 100, 100, 100);
        Due.is("none", x.count(1), 0);
    }

    /** "2: places" */
    private static void countOfPlaces() {
        LabelPlacer x = Scene.apart(20, 5);
        Due.is("as many as there can be", x.count(2), 160);
        x.setPoint(19, 5, 127);
        Due.is("one less", x.count(2), 159);
        x.setPoint(0, 5, 1);
        Due.is("seven less", x.count(2), 152);
        x.setWindow(100, 100, 100, 100);
        Due.is("none", x.count(2), 0);
        x.addPoint(100, 100, 1, 1, 1, 255);
        Due.is("a full map has no room for more", x.count(2), 0);
    }

    /** "3: pairs of places that clash" */
    private static void countOfPairs() {
        LabelPlacer x = new LabelPlacer();
        Due.is("none", x.count(3), 0);
        int pairs = 0;
        for (int i = 0; i < 20; i++) {
            x.addPoint(20 + i, 20, 20, 1, 5, 64);
            pairs += i;
            Due.is("each with each of " + (i + 1), x.count(3), pairs);
        }
        x.hideAll();
        x.show(0, 6);
        Due.is("whatever is shown", x.count(3), 190);
        x.setWindow(0, 0, 60, 21);
        Due.is("no places, no pairs", x.count(3), 0);
        Due.is("a point's own places are no pairs", Scene.apart(20, 5).count(3), 0);
    }

    /** "4: labels that are shown" */
    private static void countOfLabels() {
        LabelPlacer x = Scene.apart(20, 5);
        for (int i = 0; i < 20; i++) {
            Due.is("labels", x.count(4), i);
            x.show(i, i % 8);
        }
        Due.is("twenty", x.count(4), 20);
        x.show(3, NONE);
        Due.is("one less", x.count(4), 19);
        x.hideAll();
        Due.is("none", x.count(4), 0);
    }

    /** "5: the sum of their priorities" */
    private static void countOfPriorities() {
        LabelPlacer x = Scene.apart(20, 9);
        Due.is("none is shown", x.count(5), 0);
        x.fill();
        Due.is("the greatest sum", x.count(5), 180);
        x.setPoint(19, 4, 1);
        Due.is("the last one has the least", x.count(5), 172);
        x.show(0, NONE);
        Due.is("without the first", x.count(5), 163);
        x.hideAll();
        Due.is("none is shown again", x.count(5), 0);
    }

    /** "6 to 9: x, y, width and height of the window" */
    private static void countOfTheWindow() {
        int[][] windows = {{0, 0, 10, 10}, {190, 189, 10, 11}, {100, 101, 100, 99}, {1, 2, 30, 40}};
        for (int[] w : windows) {
            LabelPlacer x = new LabelPlacer();
            x.setWindow(w[0], w[1], w[2], w[3]);
            for (int i = 0; i < 4; i++) {
                Due.is("count(" + (6 + i) + ")", x.count(6 + i), w[i]);
            }
        }
    }

    /** "10: leaders that are kept" */
    private static void countOfLeaders() {
        LabelPlacer x = Scene.apart(20, 5);
        Due.is("none", x.count(10), 0);
        x.leaders();
        Due.is("twenty", x.count(10), 20);
        x.fill();
        Due.is("kept", x.count(10), 20);
        x.leaders();
        Due.is("none any more", x.count(10), 0);
    }

    /** "11: bytes of the text" */
    private static void countOfBytes() {
        LabelPlacer x = new LabelPlacer();
        for (int i = 0; i <= 80; i++) {
            Due.is("bytes", x.count(11), i);
            x.type(0);
        }
        Due.is("a refused one", x.count(11), 80);
        x.run();
        Due.is("with a fault", x.count(11), 80);
        x.clear();
        Due.is("emptied", x.count(11), 0);
    }

    /** "12: visible points without a label that have a place all of whose clashing shown labels have lower priorities" */
    private static void countOfThoseThatCanPush() {
        LabelPlacer x = new LabelPlacer();
        Due.is("without points", x.count(12), 0);
        x.addPoint(20, 20, 4, 1, 5, 1);
        Due.is("none clash", x.count(12), 1);
        x.addPoint(22, 20, 4, 1, 5, 1);
        Due.is("both", x.count(12), 2);
        x.show(0, 0);
        Due.is("an equal one is shown", x.count(12), 0);
        x.setPoint(1, 4, 6);
        Due.is("a lower one is shown", x.count(12), 1);
        x.setPoint(1, 4, 4);
        Due.is("a greater one is shown", x.count(12), 0);
        x.setPoint(1, 5, 1 + 128);
        Due.is("another place is free", x.count(12), 1);
        x.hideAll();
        x.setWindow(21, 0, 60, 40);
        Due.is("one is not visible", x.count(12), 1);
        x.setWindow(0, 0, 60, 20);
        Due.is("none is visible", x.count(12), 0);
        x.setWindow(0, 20, 60, 10);
        x.setPoint(1, 5, 128);
        Due.is("one has no place", x.count(12), 1);
        Due.is("twenty", Scene.apart(20, 5).count(12), 20);
    }

    /** The same: "all of whose", so one label that is not lower keeps it away. */
    private static void countOfThoseThatCanPushBesideMany() {
        for (int first = 4; first <= 6; first++) {
            for (int second = 4; second <= 6; second++) {
                LabelPlacer x = new LabelPlacer();
                x.addPoint(20, 20, 2, 1, first, 1);
                x.addPoint(23, 20, 2, 1, second, 1);
                x.addPoint(22, 20, 6, 1, 5, 64);
                x.show(0, 0);
                x.show(1, 0);
                Due.is("5 against " + first + " and " + second, x.count(12), first < 5 && second < 5 ? 1 : 0);
            }
        }
    }

    /** The numbers that the hash is made of, as the questions answer them. */
    private static List<Integer> numbersOf(LabelPlacer x, String text) {
        List<Integer> numbers = new ArrayList<>();
        for (int what = 0; what <= 12; what++) {
            numbers.add(x.count(what));
        }
        for (int p = 0; p < x.count(0); p++) {
            for (int what = 0; what <= 8; what++) {
                numbers.add(x.point(p, what));
            }
            for (int side = 0; side < 8; side++) {
                for (int what = 0; what <= 4; what++) {
                    numbers.add(x.place(p, side, what));
                }
            }
        }
        for (int i = 0; i < x.count(10); i++) {
            for (int what = 0; what <= 3; what++) {
                numbers.add(x.leader(i, what));
            }
        }
        for (int i = 0; i < text.length(); i++) {
            numbers.add((int) text.charAt(i));
        }
        return numbers;
    }

    /** The hash without overflow. */
    private static BigInteger exactHash(List<Integer> numbers) {
        BigInteger hash = BigInteger.valueOf(325);
        for (int number : numbers) {
            hash = hash.multiply(BigInteger.valueOf(31)).add(BigInteger.valueOf(number));
        }
        return hash;
    }

    /** Promise 23: "It is 325 at first" */
    private static void digestAtFirst() {
        LabelPlacer x = new LabelPlacer();
        BigInteger due = exactHash(List.of(0, 0, 0, 0, 0, 0, 0, 0, 60, 40, 0, 0, 0));
        Due.is("digest() of a new object", x.digest(), due.longValue());
        Due.is("digest() again", x.digest(), due.longValue());
    }

    /** Promise 23: "(long arithmetic with overflow)" */
    private static void digestWrapsAround() {
        LabelPlacer x = Scene.busy();
        BigInteger due = exactHash(numbersOf(Scene.busy(), "pan 1"));
        Due.holds("it is far beyond a long", due.bitLength() > 64 && exactHash(List.of(0)).bitLength() < 64);
        Due.is("digest() wraps around", x.digest(), due.longValue());
        boolean negative = false;
        boolean positive = false;
        for (int i = 0; i < 20; i++) {
            x.type('a');
            negative |= x.digest() < 0;
            positive |= x.digest() > 0;
        }
        Due.holds("it takes both signs", negative && positive);
    }

    /** The numbers can be below 0: sides of labels that are not shown, and labels that would leave the map. */
    private static void digestOfNegativeNumbers() {
        LabelPlacer x = new LabelPlacer();
        x.addPoint(0, 0, 20, 6, 1, 8);
        List<Integer> numbers = numbersOf(x, "");
        Due.holds("NONE for its label", numbers.contains(NONE));
        Due.holds("left of the map", numbers.contains(-20));
        Due.is("digest()", x.digest(), exactHash(numbers).longValue());
    }

    /** Promise 23: "count(0) to count(12)" */
    private static void digestOfEachCount() {
        LabelPlacer x = new LabelPlacer();
        x.setWindow(1, 2, 33, 44);
        Due.is("digest() of a window", x.digest(), exactHash(List.of(0, 0, 0, 0, 0, 0, 1, 2, 33, 44, 0, 0, 0)).longValue());
        x.type(0);
        Due.is("digest() of a byte 0", x.digest(), exactHash(List.of(0, 0, 0, 0, 0, 0, 1, 2, 33, 44, 0, 1, 0, 0)).longValue());
    }

    /** Promise 23: all parts, as many as there can be. */
    private static void digestOfAFullMap() {
        String text = "pan 1" + " ".repeat(75);
        List<Integer> numbers = new ArrayList<>();
        LabelPlacer x = Scene.full();
        for (int what = 0; what <= 12; what++) {
            numbers.add(x.count(what));
        }
        for (int p = 0; p < 20; p++) {
            // A new object for each point: no object is used for more than 512 calls.
            LabelPlacer y = Scene.full();
            for (int what = 0; what <= 8; what++) {
                numbers.add(y.point(p, what));
            }
            for (int k = 0; k < 40; k++) {
                numbers.add(y.place(p, k / 5, k % 5));
            }
        }
        for (int k = 0; k < 80; k++) {
            numbers.add(x.leader(k / 4, k % 4));
        }
        for (int i = 0; i < 80; i++) {
            numbers.add((int) text.charAt(i));
        }
        Due.is("numbers", numbers.size(), 13 + 20 * 49 + 80 + 80);
        Due.is("digest()", x.digest(), exactHash(numbers).longValue());
    }

    /** Promise 23: "the bytes of the text" */
    private static void digestOfTheText() {
        LabelPlacer x = new LabelPlacer();
        List<Integer> numbers = new ArrayList<>(List.of(0, 0, 0, 0, 0, 0, 0, 0, 60, 40, 0, 0, 0));
        for (int i = 0; i < 80; i++) {
            int letter = i == 0 ? 127 : i == 1 ? 0 : i;
            x.type(letter);
            numbers.add(letter);
            numbers.set(11, i + 1);
            Due.is("digest() with " + (i + 1) + " bytes", x.digest(), exactHash(numbers).longValue());
        }
        x.type('a');
        Due.is("digest() after a refused byte", x.digest(), exactHash(numbers).longValue());
        x.clear();
        Due.is("digest() of the empty text", x.digest(), new LabelPlacer().digest());
    }

    /** Promise 23: "for each leader leader(i, 0) to leader(i, 3)" */
    private static void digestOfLeadersThatAreKept() {
        LabelPlacer x = Scene.apart(3, 5);
        x.leaders();
        Due.is("digest() with leaders", x.digest(), exactHash(numbersOf(x, "")).longValue());
        for (int i = 0; i < 3; i++) {
            x.removePoint(0);
        }
        List<Integer> numbers = numbersOf(x, "");
        Due.is("numbers of leaders without points", numbers.size(), 13 + 12);
        Due.is("digest() of leaders without points", x.digest(), exactHash(numbers).longValue());
        x.leaders();
        Due.is("digest() without leaders", x.digest(), exactHash(numbersOf(x, "")).longValue());
    }

    /** Promise 23: "in this order": two maps with the same points in another order differ. */
    private static void digestInTheirOrder() {
        LabelPlacer x = new LabelPlacer();
        x.addPoint(10, 10, 2, 1, 3, 255);
        x.addPoint(30, 10, 3, 1, 3, 255);
        LabelPlacer y = new LabelPlacer();
        y.addPoint(30, 10, 3, 1, 3, 255);
        y.addPoint(10, 10, 2, 1, 3, 255);
        Due.holds("other numbers, another hash", x.digest() != y.digest());
        Due.is("digest()", x.digest(), exactHash(numbersOf(x, "")).longValue());
        Due.is("digest() of the other", y.digest(), exactHash(numbersOf(y, "")).longValue());
    }
}
