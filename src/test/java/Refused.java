import java.util.List;
import java.util.function.Supplier;
import java.util.function.ToIntFunction;

/**
 * "A call that returns an error changes nothing": the call is made on one of two maps with the same history, and
 * neither what they tell nor what they do later may show on which.
 */
final class Refused {
    /** Calls that make use of all that an object could remember; the first ones go on with a text that ends early. */
    private static final List<ToIntFunction<LabelPlacer>> LATER = List.of(
            x -> x.type(' '), x -> x.type('2'), LabelPlacer::run, LabelPlacer::clear,
            x -> x.leader(0, 0), LabelPlacer::push, LabelPlacer::improve, LabelPlacer::greatest, LabelPlacer::leaders,
            LabelPlacer::hideAll, LabelPlacer::fill, x -> x.pan(1, 1), x -> x.removePoint(0),
            x -> x.addPoint(21, 21, 2, 2, 9, 255), LabelPlacer::fill, x -> x.setWindow(0, 0, 100, 100),
            LabelPlacer::push, LabelPlacer::leaders);

    private Refused() {
    }

    static void call(String name, Supplier<LabelPlacer> history, ToIntFunction<LabelPlacer> call, int due) {
        LabelPlacer refused = history.get();
        Due.is(name, call.applyAsInt(refused), due);
        areAlike(name, refused, history.get());
    }

    static void areAlike(String name, LabelPlacer refused, LabelPlacer spared) {
        Due.is("after " + name + ": digest()", refused.digest(), spared.digest());
        for (int i = 0; i < LATER.size(); i++) {
            ToIntFunction<LabelPlacer> later = LATER.get(i);
            Due.is("after " + name + ": later call " + i, later.applyAsInt(refused), later.applyAsInt(spared));
            Due.is("after " + name + ": digest() after later call " + i, refused.digest(), spared.digest());
        }
    }
}
