/** Promises 10 and 11: book and plug. */
public final class BookingTest {
    private static final Check CHECK = new Check("BookingTest");

    public static void main(String[] args) {
        counts();
        wrongArguments();
        overlaps();
        grace();
        useByItsCard();
        useOnlyWhileItHolds();
        sessionAheadDoesNotCount();
        cardNotGood();
        refusalsInTheirOrder();
        listOfTheDay();
        cardAddedInTheDay();
        fortySessions();
        CHECK.end();
    }

    private static void counts() {
        ChargeYard x = yard();
        CHECK.due("a first booking", x.book(0, 0, 100, 15), 1);
        CHECK.due("one of another socket", x.book(1, 0, 100, 15), 1);
        CHECK.due("a second one", x.book(0, 1, 0, 15), 2);
        CHECK.due("the last minute", x.book(0, 1, 20000, 600), 3);
        x.pass(15);
        CHECK.due("a late one has gone", x.book(0, 1, 15, 20), 3);
    }

    private static void wrongArguments() {
        ChargeYard x = yard();
        x.pass(7);
        CHECK.noSuch("book(2, ..)", () -> x.book(2, 0, 50, 15));
        CHECK.noSuch("book(-1, ..)", () -> x.book(-1, 0, 50, 15));
        CHECK.noSuch("book(0, 3, ..)", () -> x.book(0, 3, 50, 15));
        CHECK.noSuch("book(0, -1, ..)", () -> x.book(0, -1, 50, 15));
        CHECK.noSuch("book(0, 3, 0, 0)", () -> x.book(0, 3, 0, 0));
        CHECK.outOfRange("from ahead of now", () -> x.book(0, 0, 6, 15));
        CHECK.outOfRange("from above 20000", () -> x.book(0, 0, 20001, 15));
        CHECK.outOfRange("14 minutes", () -> x.book(0, 0, 50, 14));
        CHECK.outOfRange("601 minutes", () -> x.book(0, 0, 50, 601));
        CHECK.outOfRange("most minutes", () -> x.book(0, 0, 50, Integer.MAX_VALUE));
        x.good(0, false);
        CHECK.outOfRange("from ahead of now, by a card that is not good", () -> x.book(0, 0, 6, 15));
        CHECK.notNow("by a card that is not good", () -> x.book(0, 0, 50, 15));
        CHECK.due("from now on, for 600 minutes", x.book(0, 1, 7, 600), 1);
    }

    private static void overlaps() {
        ChargeYard x = yard();
        x.book(0, 0, 100, 50);
        CHECK.notNow("the last minute in common", () -> x.book(0, 1, 149, 15));
        CHECK.notNow("the first minute in common", () -> x.book(0, 1, 86, 15));
        CHECK.notNow("all minutes in common", () -> x.book(0, 1, 100, 50));
        CHECK.notNow("inside", () -> x.book(0, 1, 110, 15));
        CHECK.notNow("round it", () -> x.book(0, 1, 90, 100));
        CHECK.notNow("of the same card", () -> x.book(0, 0, 110, 15));
        CHECK.due("just behind it", x.book(0, 1, 150, 15), 2);
        CHECK.due("just ahead of it", x.book(0, 1, 85, 15), 3);
        CHECK.due("at another socket", x.book(1, 1, 100, 50), 1);
    }

    private static void grace() {
        ChargeYard x = yard();
        x.book(0, 0, 3, 600);
        x.pass(2);
        CHECK.due("a minute ahead of it", x.plug(0, 1, 1), 0);
        x.unplug(0);
        x.pass(1);
        CHECK.due("as it begins", x.plug(0, 1, 1), ChargeYard.BOOKED);
        x.pass(14);
        CHECK.due("in its fifteenth minute", x.plug(0, 1, 1), ChargeYard.BOOKED);
        CHECK.notNow("its minutes are taken still", () -> x.book(0, 1, 500, 15));
        x.pass(1);
        CHECK.due("behind 15 minutes", x.plug(0, 1, 1), 1);
        CHECK.due("its minutes are free", x.book(0, 1, 500, 15), 1);
    }

    private static void useByItsCard() {
        ChargeYard x = yard();
        x.book(0, 0, 0, 600);
        CHECK.due("another card", x.plug(0, 0, 1), ChargeYard.BOOKED);
        CHECK.due("another socket", x.plug(1, 1, 1), 0);
        CHECK.due("its card", x.plug(0, 0, 0), 1);
        CHECK.due("its minutes are free", x.book(0, 1, 20, 600), 1);
        x.unplug(1);
        CHECK.due("another card, once it has gone", x.plug(0, 0, 1), 2);
    }

    private static void useOnlyWhileItHolds() {
        ChargeYard x = yard();
        x.book(0, 0, 5, 20);
        x.plug(0, 0, 0);
        CHECK.due("a session ahead of it leaves it", x.book(0, 1, 50, 15), 2);
        x.unplug(0);
        x.pass(5);
        CHECK.due("it holds", x.plug(0, 0, 1), ChargeYard.BOOKED);
        x.plug(1, 0, 0);
        CHECK.due("its card's session elsewhere leaves it", x.plug(0, 1, 1), ChargeYard.BOOKED);
        x.unplug(1);
        x.fault(0, true);
        x.plug(0, 0, 0);
        x.fault(0, false);
        CHECK.due("a refused session leaves it", x.plug(0, 1, 1), ChargeYard.BOOKED);
    }

    private static void sessionAheadDoesNotCount() {
        ChargeYard x = yard();
        x.plug(0, 0, 0);
        x.book(0, 0, 1, 600);
        x.pass(10);
        x.unplug(0);
        CHECK.due("it holds on", x.plug(0, 1, 1), ChargeYard.BOOKED);
        CHECK.due("it is there once more", x.plug(0, 0, 0), 1);
        x.unplug(1);
        CHECK.due("now it has gone", x.plug(0, 1, 1), 2);
    }

    private static void cardNotGood() {
        ChargeYard x = yard();
        x.book(0, 0, 0, 15);
        x.good(0, false);
        CHECK.due("holds although its card is not good", x.plug(0, 1, 1), ChargeYard.BOOKED);
        CHECK.due("its card is refused", x.plug(0, 1, 0), ChargeYard.CARD);
    }

    /** Every reason applies at first; they are taken away one by one. */
    private static void refusalsInTheirOrder() {
        ChargeYard x = yard();
        x.plug(0, 0, 0);
        x.plug(1, 1, 2);
        x.book(0, 2, 0, 15);
        x.good(1, false);
        x.fault(0, true);
        CHECK.due("faulty", x.plug(0, 1, 1), ChargeYard.FAULT);
        x.fault(0, false);
        CHECK.due("taken", x.plug(0, 1, 1), ChargeYard.TAKEN);
        x.unplug(0);
        CHECK.due("not good", x.plug(0, 1, 1), ChargeYard.CARD);
        x.good(1, true);
        CHECK.due("booked", x.plug(0, 1, 1), ChargeYard.BOOKED);
        x.pass(15);
        CHECK.due("in another session", x.plug(0, 1, 1), ChargeYard.AWAY);
        x.unplug(1);
        CHECK.due("plugged in", x.plug(0, 1, 1), 2);
        CHECK.due("its car", x.of(2, 5), 1);
        CHECK.due("its socket", x.of(2, 6), 0);
        CHECK.noSuch("no such socket", () -> x.plug(2, 0, 0));
        CHECK.noSuch("no such car", () -> x.plug(0, 2, 0));
        CHECK.noSuch("no such card", () -> x.plug(0, 0, 3));
        CHECK.noSuch("socket -1", () -> x.plug(-1, 0, 0));
        CHECK.noSuch("car -1", () -> x.plug(0, -1, 0));
        CHECK.noSuch("card -1", () -> x.plug(0, 0, -1));
    }

    private static void listOfTheDay() {
        ChargeYard x = yard();
        x.link(0, false);
        CHECK.due("no list on the day 0", x.plug(0, 0, 0), ChargeYard.CARD);
        x.good(1, false);
        x.good(2, false);
        passTo(x, 1439);
        CHECK.due("the last minute of the day 0", x.plug(0, 0, 0), ChargeYard.CARD);
        x.good(2, true);
        x.pass(1);
        x.good(1, true);
        CHECK.due("not good as the day began", x.plug(0, 0, 1), ChargeYard.CARD);
        x.good(2, false);
        CHECK.due("in the list, but not good now", x.plug(0, 0, 2), ChargeYard.CARD);
        x.good(2, true);
        CHECK.due("in the list", x.plug(0, 0, 2), 0);
        CHECK.due("the link of another socket is up", x.plug(1, 1, 1), 1);
        x.unplug(0);
        CHECK.due("still not in the list", x.plug(0, 0, 1), ChargeYard.CARD);
        x.good(2, false);
        passFor(x, 1440);
        x.good(2, true);
        CHECK.due("in the list no more", x.plug(0, 0, 2), ChargeYard.CARD);
        CHECK.due("in the next list", x.plug(0, 0, 1), 2);
    }

    private static void cardAddedInTheDay() {
        ChargeYard x = yard();
        passTo(x, 1440);
        x.card(0, 0);
        x.link(0, false);
        CHECK.due("added behind the list", x.plug(0, 0, 3), ChargeYard.CARD);
        x.link(0, true);
        CHECK.due("good where the link is up", x.plug(0, 0, 3), 0);
    }

    private static void fortySessions() {
        ChargeYard x = yard();
        for (int i = 0; i < 40; i++) {
            CHECK.due("session " + i, x.plug(0, 0, 0), i);
            x.unplug(i);
        }
        CHECK.notNow("a session 40", () -> x.plug(0, 0, 0));
        CHECK.noSuch("a session 40 of no card", () -> x.plug(0, 0, 9));
        x.fault(0, true);
        CHECK.notNow("a session 40, refused", () -> x.plug(0, 0, 0));
        CHECK.noSuch("of(40, 0)", () -> x.of(40, 0));
    }

    private static void passTo(ChargeYard x, int minute) {
        int now = x.pass(1);
        passFor(x, minute - now);
    }

    private static void passFor(ChargeYard x, int minutes) {
        for (int left = minutes; left > 0; left -= 120) {
            x.pass(Math.min(left, 120));
        }
    }

    /** Two sockets, two cars, three cards. */
    private static ChargeYard yard() {
        ChargeYard x = new ChargeYard();
        for (int i = 0; i < 2; i++) {
            x.socket(i, 5000);
            x.car(600000, 0, 3000);
        }
        for (int i = 0; i < 3; i++) {
            x.card(i, 0);
        }
        return x;
    }
}
