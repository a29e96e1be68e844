import java.util.List;
import java.util.function.Consumer;
import java.util.function.ToIntFunction;

/** Calls that are refused: each as it is due, and the yard answers all that follows as one that never had the call. */
final class Refusals {
    private static final int MOST_CALLS = 512;

    private final Check check;

    Refusals(Check check) {
        this.check = check;
    }

    void noSuch(String call, History ahead, Consumer<ChargeYard> made) {
        thrown(call, "IndexOutOfBoundsException", ahead, made);
    }

    void outOfRange(String call, History ahead, Consumer<ChargeYard> made) {
        thrown(call, "IllegalArgumentException", ahead, made);
    }

    void notNow(String call, History ahead, Consumer<ChargeYard> made) {
        thrown(call, "IllegalStateException", ahead, made);
    }

    void answered(String call, int due, History ahead, ToIntFunction<ChargeYard> made) {
        ChargeYard x = ahead.yard();
        check.due(call, made.applyAsInt(x), due);
        nothingChanged(call, ahead, x);
    }

    private void thrown(String call, String due, History ahead, Consumer<ChargeYard> made) {
        ChargeYard x = ahead.yard();
        check.due(call, Check.thrownBy(() -> made.accept(x)), due);
        nothingChanged(call, ahead, x);
    }

    private void nothingChanged(String call, History ahead, ChargeYard x) {
        List<String> got = Probe.answersOf(x);
        List<String> want = Probe.answersOf(ahead.yard());
        for (int i = 0; i < want.size(); i++) {
            check.due("behind " + call + ", call " + i, got.get(i), want.get(i));
        }
        check.due(call + " within 512 calls", ahead.length() + 1 + got.size() <= MOST_CALLS, true);
    }
}
