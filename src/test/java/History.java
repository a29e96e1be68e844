import java.util.ArrayList;
import java.util.List;
import java.util.function.Consumer;

/** A row of calls that brings any new yard into one and the same state. */
final class History {
    private final List<Consumer<ChargeYard>> calls = new ArrayList<>();

    History then(Consumer<ChargeYard> call) {
        calls.add(call);
        return this;
    }

    History pass(int minutes) {
        for (int left = minutes; left > 0; left -= 120) {
            int next = Math.min(left, 120);
            then(x -> x.pass(next));
        }
        return this;
    }

    /** This one with some more calls; this one itself stays as it is. */
    History and(Consumer<ChargeYard> call) {
        History longer = new History();
        longer.calls.addAll(calls);
        return longer.then(call);
    }

    ChargeYard yard() {
        ChargeYard x = new ChargeYard();
        calls.forEach(call -> call.accept(x));
        return x;
    }

    int length() {
        return calls.size();
    }

    /** Lets minutes pass on a yard that is there already. */
    static void passFor(ChargeYard x, int minutes) {
        for (int left = minutes; left > 0; left -= 120) {
            x.pass(Math.min(left, 120));
        }
    }

    /** A socket of 5000 watts, an empty car of 3000 and a card of rank 0, so many of each, all of the firm 0. */
    static History of(int sockets, int cars, int cards) {
        History made = new History();
        for (int i = 0; i < sockets; i++) {
            made.then(x -> x.socket(0, 5000));
        }
        for (int i = 0; i < cars; i++) {
            made.then(x -> x.car(600000, 0, 3000));
        }
        for (int i = 0; i < cards; i++) {
            made.then(x -> x.card(0, 0));
        }
        return made;
    }

    /**
     * Something of everything, in the minute 1457: 3 sockets (1 in the third minute of its link's being down, 2 with
     * its link down, faulty and booked twice), 5 cars (3 is full, 4 is free), 4 cards (3 is not good), two minutes of
     * overload, and the sessions 0 billed, 1 billed and disputed, 2 unplugged with ten values that wait at the socket
     * 2, 3 going on at the socket 1 by what it heard last, 4 going on and idling at the socket 0.
     */
    static History busy() {
        History made = new History();
        for (int i = 0; i < 3; i++) {
            int firm = i;
            made.then(x -> x.socket(firm, 5000 + 1000 * firm));
            made.then(x -> x.tariff(firm, 100 + firm, 200 + firm, 300 + firm, 400 + firm));
        }
        for (int i = 0; i < 5; i++) {
            int number = i;
            made.then(x -> x.car(number == 3 ? 9000 : 600000, 0, 3000 + 100 * number));
        }
        for (int i = 0; i < 4; i++) {
            int number = i;
            made.then(x -> x.card(number % 3, number));
        }
        made.pass(1380);
        made.then(x -> x.plug(0, 0, 1)).pass(20).then(x -> x.unplug(0));
        made.then(x -> x.plug(0, 0, 2)).pass(20).then(x -> x.unplug(1)).then(x -> x.dispute(1, 40));
        made.then(x -> x.plug(2, 1, 0)).pass(10).then(x -> x.link(2, false)).pass(10).then(x -> x.unplug(2));
        made.then(x -> x.plug(1, 2, 2)).then(x -> x.plug(0, 3, 1)).pass(13);
        made.then(x -> x.set(0, 2000)).then(x -> x.set(1, 100)).then(x -> x.set(2, -3)).pass(2);
        made.then(x -> x.link(1, false)).then(x -> x.set(0, 1000));
        made.then(x -> x.book(2, 2, 1455, 15)).then(x -> x.book(2, 0, 1480, 20)).pass(2);
        return made.then(x -> x.fault(2, true)).then(x -> x.good(3, false));
    }
}
