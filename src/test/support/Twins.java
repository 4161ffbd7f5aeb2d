import java.util.function.Consumer;
import java.util.function.Predicate;
import java.util.function.ToIntFunction;

/**
 * Two groups that get the same calls, but for those that must change nothing: only one gets these.
 * What a call changed that cannot be asked shows in what later calls do to the two.
 */
final class Twins {
    private final Group plain;
    private final Group tried;

    Twins(int size) {
        plain = new Group(size);
        tried = new Group(size);
    }

    void both(Consumer<Group> calls) {
        calls.accept(plain);
        calls.accept(tried);
    }

    void due(String what, int want, ToIntFunction<Group> call) {
        Due.due(what, call.applyAsInt(plain), want);
        Due.due(what + " after calls that change nothing", call.applyAsInt(tried), want);
    }

    /** A call that answers so and changes nothing. */
    void idle(String what, int want, ToIntFunction<Group> call) {
        Due.due(what, call.applyAsInt(tried), want);
    }

    /** A call that is refused with false and changes nothing. */
    void refused(String what, Predicate<Group> call) {
        Due.due(what, call.test(tried), false);
    }

    void same(String at) {
        Due.dueText(at + ", after calls that change nothing", tried.everything(), plain.everything());
    }
}
