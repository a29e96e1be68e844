import java.util.ArrayList;
import java.util.List;
import java.util.function.IntSupplier;

/** Asks a yard for all that can be seen of it, now and in the time that comes, by one and the same row of calls. */
final class Probe {
    private static final int CARS = 5;
    private static final int SOCKETS = 3;
    private static final int CARDS = 4;
    private static final int SESSIONS = 6;

    private final ChargeYard x;
    private final List<String> answers = new ArrayList<>();

    private Probe(ChargeYard x) {
        this.x = x;
    }

    /** The yard is of no use behind this. */
    static List<String> answersOf(ChargeYard x) {
        Probe probe = new Probe(x);
        probe.look();
        probe.flagsAndSettings();
        probe.bookings();
        probe.pass(1);
        probe.look();
        probe.pass(3);
        probe.look();
        probe.endings();
        probe.look();
        probe.additions();
        return probe.answers;
    }

    private void ask(String call, IntSupplier made) {
        String answer;
        try {
            answer = Integer.toString(made.getAsInt());
        } catch (RuntimeException thrown) {
            answer = Check.nameOf(thrown);
        }
        answers.add(call + " " + answer);
    }

    private void pass(int minutes) {
        ask("pass", () -> x.pass(minutes));
    }

    private void look() {
        ask("overloads", x::overloads);
        for (int firm = 0; firm < 3; firm++) {
            int one = firm;
            ask("account " + one, () -> x.account(one));
        }
        for (int car = 0; car < CARS; car++) {
            int one = car;
            ask("charge " + one, () -> x.charge(one));
        }
        for (int card = 0; card < CARDS; card++) {
            int one = card;
            ask("owes " + one, () -> x.owes(one));
        }
        for (int session = 0; session < SESSIONS; session++) {
            int one = session;
            // its car and its socket, 5 and 6, could not change
            for (int i = 0; i < 5; i++) {
                int what = i;
                ask("of " + one + " " + what, () -> x.of(one, what));
            }
            ask("power " + one, () -> x.power(one));
            ask("bill " + one, () -> x.bill(one));
            ask("billAnew " + one, () -> x.billAnew(one));
        }
    }

    private void flagsAndSettings() {
        for (int i = 0; i < SOCKETS; i++) {
            int one = i;
            ask("fault " + one, () -> x.fault(one, false) ? 1 : 0);
        }
        for (int i = 0; i < CARDS; i++) {
            int one = i;
            ask("good " + one, () -> x.good(one, true) ? 1 : 0);
        }
        ask("limit", () -> x.set(0, 9000));
        ask("sun", () -> x.set(1, 0));
        ask("degrees", () -> x.set(2, 5));
    }

    /** How many there are at each socket, and who may plug there. */
    private void bookings() {
        for (int i = 0; i < SOCKETS; i++) {
            int one = i;
            ask("book far " + one, () -> x.book(one, 0, 19900, 15));
            ask("plug " + one, () -> x.plug(one, 4, 3));
        }
        ask("book by another's beginning", () -> x.book(2, 1, 1470, 15));
    }

    private void endings() {
        for (int i = 0; i < SESSIONS; i++) {
            int one = i;
            ask("unplug " + one, () -> x.unplug(one));
        }
        for (int i = 0; i < SOCKETS; i++) {
            int one = i;
            ask("link " + one, () -> x.link(one, true));
        }
        for (int i = 0; i < SESSIONS; i++) {
            int one = i;
            ask("dispute " + one, () -> x.dispute(one, 50));
        }
        // these begin by the tariffs that the firms have now
        for (int i = 0; i < SOCKETS; i++) {
            int one = i;
            ask("plug again " + one, () -> x.plug(one, one, 2));
        }
        pass(2);
        for (int i = 5; i < 9; i++) {
            int one = i;
            ask("bill behind " + one, () -> x.bill(one));
        }
    }

    private void additions() {
        ask("socket", () -> x.socket(0, 1400));
        ask("car", () -> x.car(1, 0, 1));
        ask("card", () -> x.card(0, 0));
    }
}
