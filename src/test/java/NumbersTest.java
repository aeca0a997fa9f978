/** Promises 22 and 23: count, digest. */
public final class NumbersTest {
    private static final int MIN = Integer.MIN_VALUE, MAX = Integer.MAX_VALUE;

    public static void main(String[] args) {
        countAnswers();
        countOfFirst();
        countOfPushes();
        countRanges();
        digestOfANewObject();
        digestOfAllParts();
        Due.end();
    }

    private static LabelPlacer example() {
        LabelPlacer x = new LabelPlacer();
        x.addPoint(20, 20, 3, 1, 4, 1 + 2);
        x.addPoint(22, 20, 3, 1, 5, 1 + 2);
        x.addPoint(24, 20, 3, 1, 6, 1);
        x.addPoint(120, 20, 3, 1, 7, 255);
        x.addPoint(50, 30, 2, 2, 8, 8);
        return x;
    }

    private static void countsAre(LabelPlacer x, int... due) {
        for (int what = 0; what < due.length; what++) {
            Due.is("count(" + what + ")", x.count(what), due[what]);
        }
    }

    private static void countAnswers() {
        LabelPlacer x = example();
        // Row 21: point 0 covers 21..23 or 17..19, point 1 covers 23..25 or 19..21, point 2 covers 25..27.
        countsAre(x, 5, 4, 6, 4, 0, 0, 0, 0, 60, 40, 0, 0, 4);
        x.fill();
        countsAre(x, 5, 4, 6, 4, 3, 19, 0, 0, 60, 40, 0, 0, 0);
        Due.is("point 0 has no room beside point 1", x.point(0, 7), -1);
        x.leaders();
        x.type('a');
        x.type('b');
        countsAre(x, 5, 4, 6, 4, 3, 19, 0, 0, 60, 40, 1, 2, 0);
        x.setWindow(2, 3, 45, 36);
        countsAre(x, 5, 3, 5, 4, 2, 11, 2, 3, 45, 36, 1, 2, 0);
    }

    private static void countOfFirst() {
        LabelPlacer x = example();
        x.show(0, 1);
        Due.is("count(4)", x.count(4), 1);
        Due.is("count(5)", x.count(5), 4);
    }

    private static void countOfPushes() {
        LabelPlacer x = example();
        x.show(0, 0);
        Due.is("points that can push, or need not", x.count(12), 3);
        x.setPoint(0, 4, 5);
        Due.is("with an equal priority", x.count(12), 2);
        x.setPoint(0, 4, 9);
        x.show(0, 1);
        Due.is("with another side free", x.count(12), 3);
        x.setWindow(0, 0, 30, 30);
        Due.is("visible ones alone", x.count(12), 2);
    }

    private static void countRanges() {
        LabelPlacer x = example();
        for (int what : new int[] {-1, 13, MIN, MAX}) {
            Due.is("count(" + what + ")", x.count(what), LabelPlacer.BAD);
        }
    }

    private static void digestOfANewObject() {
        long due = 325;
        for (int number : new int[] {0, 0, 0, 0, 0, 0, 0, 0, 60, 40, 0, 0, 0}) {
            due = 31 * due + number;
        }
        Due.is("digest()", new LabelPlacer().digest(), due);
    }

    private static void digestOfAllParts() {
        LabelPlacer x = example();
        x.show(0, 0);
        x.leaders();
        Due.type(x, "hide \u007f");
        long due = 325;
        for (int what = 0; what <= 12; what++) {
            due = 31 * due + x.count(what);
        }
        for (int p = 0; p < 5; p++) {
            for (int what = 0; what <= 8; what++) {
                due = 31 * due + x.point(p, what);
            }
            for (int side = 0; side < 8; side++) {
                for (int what = 0; what <= 4; what++) {
                    due = 31 * due + x.place(p, side, what);
                }
            }
        }
        Due.is("leaders", x.count(10), 3);
        for (int i = 0; i < 3; i++) {
            for (int what = 0; what <= 3; what++) {
                due = 31 * due + x.leader(i, what);
            }
        }
        for (int letter : new int[] {'h', 'i', 'd', 'e', ' ', 127}) {
            due = 31 * due + letter;
        }
        Due.is("digest()", x.digest(), due);
        Due.is("digest() changes nothing", x.digest(), due);
    }
}
