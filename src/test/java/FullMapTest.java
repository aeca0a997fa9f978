import java.util.ArrayList;
import java.util.List;
import java.util.function.Supplier;

/** All promises at the document's limits: 20 points, a full text, and all calls with the strangest arguments. */
public final class FullMapTest {
    private static final int[] STRANGE = {Integer.MIN_VALUE, -3, -1, 0, 1, 6, 7, 8, 19, 20, 199, 200, Integer.MAX_VALUE};

    public static void main(String[] args) {
        twentyApart();
        twentyWithoutPlaces();
        twentyInACrowd();
        allCalls();
        strangeArguments(LabelPlacer::new);
        strangeArguments(FullMapTest::crowd);
        Due.end();
    }

    private static void twentyApart() {
        LabelPlacer x = new LabelPlacer();
        x.setWindow(0, 0, 100, 100);
        for (int i = 0; i < 20; i++) {
            x.addPoint(10 + 20 * (i % 5), 10 + 20 * (i / 5), 4, 2, 1 + i % 9, 255);
        }
        Due.is("places", x.count(2), 160);
        Due.is("clashes", x.count(3), 0);
        Due.is("pushes", x.count(12), 20);
        Due.is("greatest()", x.greatest(), LabelPlacer.STATE);
        Due.is("leaders()", x.leaders(), 20);
        Due.is("the last slot", x.leader(19, 1), 99 - 38);
        Due.is("the last point", x.leader(19, 0), 4);
        Due.is("fill()", x.fill(), 20);
        Due.is("hideAll()", x.hideAll(), 20);
        Due.is("improve()", x.improve(), 20);
        x.hideAll();
        Due.is("push()", x.push(), 20);
        Due.is("the sum", x.count(5), 2 * 45 + 3);
        Due.is("labelAt()", x.labelAt(91, 71), 19);
        Due.is("labelAt() beside", x.labelAt(90, 70), LabelPlacer.NONE);
        Due.is("pan(0, 0)", x.pan(0, 0), 20);
        Due.is("pan(11, 11)", x.pan(11, 11), 12);
        Due.is("removePoint(0)", x.removePoint(0), 19);
        Due.is("addPoint", x.addPoint(0, 0, 1, 1, 1, 255), 19);
    }

    private static void twentyWithoutPlaces() {
        LabelPlacer x = new LabelPlacer();
        for (int i = 0; i < 20; i++) {
            x.addPoint(59, i, 4, 2, 5, 1);
        }
        Due.is("places", x.count(2), 0);
        Due.is("fill()", x.fill(), 0);
        Due.is("improve()", x.improve(), 0);
        Due.is("push()", x.push(), 0);
        Due.is("greatest()", x.greatest(), 0);
        Due.is("pan(0, 0)", x.pan(0, 0), 0);
        Due.is("leaders()", x.leaders(), 20);
    }

    private static LabelPlacer crowd() {
        LabelPlacer x = new LabelPlacer();
        for (int i = 0; i < 20; i++) {
            x.addPoint(20 + 2 * (i % 5), 10 + 2 * (i / 5), 3 + i % 4, 1 + i % 3, 1 + i * 7 % 9, 255);
        }
        while (x.type('a') > 0) {
        }
        return x;
    }

    private static void twentyInACrowd() {
        LabelPlacer x = crowd();
        Due.is("the text is full", x.count(11), 80);
        Due.is("leaders()", x.leaders(), 20);
        x.fill();
        x.improve();
        x.push();
        Due.is("nothing is left to push", x.count(12), 0);
        Due.is("count(3) is half of all clashes", 2 * x.count(3), clashes(x));
        x.setWindow(0, 0, 60, 38);
        x.hideAll();
        Due.is("a row too few for the slots", x.leaders(), LabelPlacer.STATE);
        x.setWindow(0, 0, 60, 39);
        Due.is("rows enough", x.leaders(), 20);
    }

    /** "An object is used for at most 512 calls after it has been made": the last one is answered as the first. */
    private static void allCalls() {
        LabelPlacer x = Scene.apart(20, 5);
        long before = x.digest();
        // 1 call for the window, 20 for the points and 1 for the digest have been made.
        for (int made = 22; made < 510; made += 2) {
            Due.is("fill()", x.fill(), 20);
            Due.is("hideAll()", x.hideAll(), 20);
        }
        Due.is("call 511: leader(0, 0)", x.leader(0, 0), LabelPlacer.NONE);
        Due.is("call 512: digest()", x.digest(), before);
    }

    private static int clashes(LabelPlacer x) {
        int sum = 0;
        for (int p = 0; p < 20; p++) {
            for (int side = 0; side < 8; side++) {
                sum += x.place(p, side, 3);
            }
        }
        return sum;
    }

    /** Nothing may throw; what returns an error may not change anything. No object is used for more than 512 calls. */
    private static void strangeArguments(Supplier<LabelPlacer> history) {
        List<Integer> results = new ArrayList<>();
        for (int a : STRANGE) {
            for (int b : STRANGE) {
                LabelPlacer x = history.get();
                results.add(x.count(a));
                results.add(x.point(a, b));
                results.add(x.leader(a, b));
                results.add(x.labelAt(a, b));
                for (int c : STRANGE) {
                    results.add(x.place(a, b, c));
                    results.add(x.clash(a, b, c, b));
                    results.add(x.clash(c, a, b, a));
                    unchangedIfWrong(x, 0, a, b, c);
                    unchangedIfWrong(x, 1, a, b, c);
                }
                for (int call = 2; call <= 5; call++) {
                    unchangedIfWrong(x, call, a, b, 0);
                }
            }
        }
        Due.holds("there were answers", results.size() > 1000);
    }

    private static void unchangedIfWrong(LabelPlacer x, int call, int a, int b, int c) {
        long before = x.digest();
        int result = switch (call) {
            case 0 -> x.setPoint(a, b, c);
            case 1 -> x.setWindow(a, b, c, c);
            case 2 -> x.pan(a, b);
            case 3 -> x.show(a, b);
            case 4 -> x.type(a);
            default -> x.removePoint(a);
        };
        if (result < LabelPlacer.NONE) {
            Due.is("call " + call + " (" + a + ", " + b + ", " + c + ") changes nothing", x.digest(), before);
        }
    }
}
