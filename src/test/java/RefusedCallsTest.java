import java.util.function.ToIntFunction;

/**
 * Terms, Exceptions: "The first line of a method's throws clause that applies decides; a call that throws changes
 * nothing." For each method with several lines all ways in which they can apply together; for each
 * IllegalStateException the last state that is right and the first that is not; and plugging that is refused.
 */
public final class RefusedCallsTest {
    private static final Check CHECK = new Check("RefusedCallsTest");
    private static final Refusals REFUSED = new Refusals(CHECK);
    private static final int NO = 99;

    public static void main(String[] args) {
        promise2Socket();
        promise3Car();
        promise4Card();
        promise9Tariff();
        promise10BookOrder();
        promise10BookState();
        promise11PlugOrder();
        promise11PlugRefused();
        promise12Unplug();
        promise13PassOrder();
        promise13PassState();
        promise14Of();
        promise21DisputeOrder();
        promise21DisputeState();
        CHECK.end();
    }

    private static void taken(String call, History ahead, ToIntFunction<ChargeYard> made, int due) {
        CHECK.due(call, made.applyAsInt(ahead.yard()), due);
    }

    /** "Throws IllegalStateException if there are 8" */
    private static void promise2Socket() {
        History seven = History.of(7, 5, 4);
        History eight = History.of(8, 5, 4);
        taken("the eighth socket", seven, x -> x.socket(0, 1400), 7);
        REFUSED.notNow("the ninth socket", eight, x -> x.socket(0, 1400));
        REFUSED.outOfRange("a ninth of no power", eight, x -> x.socket(0, 1399));
        REFUSED.noSuch("a ninth of no firm", eight, x -> x.socket(3, 1400));
        REFUSED.noSuch("a ninth of no firm and no power", eight, x -> x.socket(-1, 50001));
        REFUSED.noSuch("an eighth of no firm and no power", seven, x -> x.socket(3, 1399));
    }

    /** "Throws IllegalStateException if there are 12" */
    private static void promise3Car() {
        History twelve = History.of(3, 12, 4);
        taken("the twelfth car", History.of(3, 11, 4), x -> x.car(1, 1, 1), 11);
        REFUSED.notNow("the thirteenth car", twelve, x -> x.car(1, 1, 1));
        REFUSED.outOfRange("a thirteenth of no capacity", twelve, x -> x.car(0, 0, 1));
        REFUSED.outOfRange("a thirteenth of too much charge", twelve, x -> x.car(1, 2, 1));
        REFUSED.outOfRange("a thirteenth of no power", twelve, x -> x.car(1, 1, 0));
    }

    /** "Throws IllegalStateException if there are 12" */
    private static void promise4Card() {
        History twelve = History.of(3, 5, 12);
        taken("the twelfth card", History.of(3, 5, 11), x -> x.card(2, 3), 11);
        REFUSED.notNow("the thirteenth card", twelve, x -> x.card(2, 3));
        REFUSED.outOfRange("a thirteenth of rank 4", twelve, x -> x.card(2, 4));
        REFUSED.noSuch("a thirteenth of no firm", twelve, x -> x.card(3, 3));
        REFUSED.noSuch("a thirteenth of no firm and rank -1", twelve, x -> x.card(-1, -1));
        REFUSED.noSuch("a fifth of no firm and rank 4", History.busy(), x -> x.card(3, 4));
    }

    private static void promise9Tariff() {
        History busy = History.busy();
        REFUSED.noSuch("no firm and all too much", busy, x -> x.tariff(3, 1001, 1001, 1001, 1001));
        REFUSED.outOfRange("the last one too much", busy, x -> x.tariff(0, 1, 1, 1, 1001));
        REFUSED.outOfRange("the first one too little", busy, x -> x.tariff(0, -1, 1, 1, 1));
    }

    /** Each of the socket, the card, the first minute, the minutes and the state may be wrong, or not. */
    private static void promise10BookOrder() {
        for (int mask = 1; mask < 32; mask++) {
            int socket = (mask & 1) != 0 ? NO : 0;
            int card = (mask & 2) != 0 ? NO : 1;
            int from = (mask & 4) != 0 ? 1456 : 1460;
            int minutes = (mask & 8) != 0 ? 601 : 30;
            History ahead = History.busy();
            if ((mask & 16) != 0) {
                ahead.then(x -> x.good(1, false)).then(x -> x.book(0, 0, 1458, 600));
            }
            String call = "book, wrong in " + mask;
            if ((mask & 3) != 0) {
                REFUSED.noSuch(call, ahead, x -> x.book(socket, card, from, minutes));
            } else if ((mask & 12) != 0) {
                REFUSED.outOfRange(call, ahead, x -> x.book(socket, card, from, minutes));
            } else {
                REFUSED.notNow(call, ahead, x -> x.book(socket, card, from, minutes));
            }
        }
    }

    /** "Throws IllegalStateException if the card is not good, or another one has a minute in common with it" */
    private static void promise10BookState() {
        History busy = History.busy();
        REFUSED.notNow("book by a card that is not good", busy, x -> x.book(0, 3, 1457, 15));
        taken("book once it is good", busy.and(x -> x.good(3, true)), x -> x.book(0, 3, 1457, 15), 1);
        // the socket 2 has the minutes 1455 to 1469, and 1480 to 1499
        REFUSED.notNow("the last minute in common", busy, x -> x.book(2, 2, 1469, 15));
        taken("just behind the last minute", busy.and(x -> x.pass(13)), x -> x.book(2, 2, 1500, 15), 2);
        REFUSED.notNow("the first minute in common", busy, x -> x.book(2, 0, 1466, 15));
        REFUSED.notNow("the second one's last minute in common", busy, x -> x.book(2, 0, 1499, 15));
        taken("just behind the second one", busy, x -> x.book(2, 1, 1500, 15), 3);
        REFUSED.notNow("round both", busy, x -> x.book(2, 1, 1457, 600));
    }

    /** Each of the socket, the car and the card may be none, and there may be 40 sessions, and a faulty socket. */
    private static void promise11PlugOrder() {
        for (int mask = 1; mask < 32; mask++) {
            int socket = (mask & 1) != 0 ? NO : 0;
            int car = (mask & 2) != 0 ? NO : 0;
            int card = (mask & 4) != 0 ? NO : 0;
            boolean isMost = (mask & 8) != 0;
            History ahead = sessions(isMost ? 40 : 39);
            if ((mask & 16) != 0) {
                ahead.then(x -> x.fault(0, true));
            }
            String call = "plug, wrong in " + mask;
            if ((mask & 7) != 0) {
                REFUSED.noSuch(call, ahead, x -> x.plug(socket, car, card));
            } else if (isMost) {
                REFUSED.notNow(call, ahead, x -> x.plug(socket, car, card));
            } else {
                REFUSED.answered(call, ChargeYard.FAULT, ahead, x -> x.plug(socket, car, card));
            }
        }
        taken("the fortieth session", sessions(39), x -> x.plug(0, 0, 0), 39);
    }

    /** So many sessions, all of them billed. */
    private static History sessions(int count) {
        History made = History.of(3, 5, 4);
        for (int i = 0; i < count; i++) {
            int number = i;
            made.then(x -> x.plug(0, 0, 0)).then(x -> x.unplug(number));
        }
        return made;
    }

    /** Promise 11, "FAULT to AWAY if it is refused": nothing begins, and no booking goes. */
    private static void promise11PlugRefused() {
        History busy = History.busy();
        REFUSED.answered("plug, FAULT", ChargeYard.FAULT, busy, x -> x.plug(2, 4, 2));
        REFUSED.answered("plug, TAKEN", ChargeYard.TAKEN, busy, x -> x.plug(0, 4, 0));
        History whole = busy.and(x -> x.fault(2, false));
        REFUSED.answered("plug, CARD", ChargeYard.CARD, whole, x -> x.plug(2, 4, 3));
        REFUSED.answered("plug, BOOKED", ChargeYard.BOOKED, whole, x -> x.plug(2, 4, 0));
        // by the card of the booking that holds
        REFUSED.answered("plug, AWAY", ChargeYard.AWAY, whole, x -> x.plug(2, 3, 2));
        taken("plug", whole, x -> x.plug(2, 4, 2), 5);
    }

    /** "Throws IllegalStateException if it is unplugged" */
    private static void promise12Unplug() {
        History busy = History.busy();
        REFUSED.notNow("unplug one that is billed", busy, x -> x.unplug(0));
        REFUSED.notNow("unplug one that is disputed", busy, x -> x.unplug(1));
        REFUSED.notNow("unplug one whose values wait", busy, x -> x.unplug(2));
        taken("unplug one that goes on, its link down", busy, x -> x.unplug(3), 2);
        taken("unplug one that goes on", busy, x -> x.unplug(4), 0);
    }

    private static void promise13PassOrder() {
        History late = History.of(1, 1, 1).pass(19990);
        REFUSED.outOfRange("121 minutes, beyond the end too", late, x -> x.pass(121));
        REFUSED.outOfRange("the most minutes", late, x -> x.pass(Integer.MAX_VALUE));
        REFUSED.outOfRange("no minutes at the end", late.and(x -> x.pass(10)), x -> x.pass(0));
    }

    /** "Throws IllegalStateException if it would be above 20000" */
    private static void promise13PassState() {
        History late = History.of(1, 1, 1).then(x -> x.plug(0, 0, 0)).pass(19990);
        taken("to 20000", late, x -> x.pass(10), 20000);
        REFUSED.notNow("to 20001", late, x -> x.pass(11));
        REFUSED.notNow("to 20110", late, x -> x.pass(120));
        History end = late.and(x -> x.pass(10));
        REFUSED.notNow("from 20000 to 20001", end, x -> x.pass(1));
        taken("from 19880 to 20000", History.of(1, 1, 1).pass(19880), x -> x.pass(120), 20000);
        REFUSED.notNow("from 19881 to 20001", History.of(1, 1, 1).pass(19881), x -> x.pass(120));
    }

    private static void promise14Of() {
        REFUSED.noSuch("no such session, and what is 7", History.busy(), x -> x.of(5, 7));
        REFUSED.noSuch("no such session, and what is -1", History.busy(), x -> x.of(-1, -1));
    }

    private static void promise21DisputeOrder() {
        History busy = History.busy();
        REFUSED.noSuch("no such session, and no hundredths", busy, x -> x.dispute(5, 0));
        REFUSED.outOfRange("no hundredths of one that was disputed", busy, x -> x.dispute(1, 0));
        REFUSED.outOfRange("101 hundredths of one that is not billed", busy, x -> x.dispute(2, 101));
        REFUSED.outOfRange("101 hundredths of one that goes on", busy, x -> x.dispute(4, 101));
    }

    /** "Throws IllegalStateException if it is not billed, or was disputed" */
    private static void promise21DisputeState() {
        History busy = History.busy();
        REFUSED.notNow("one that was disputed", busy, x -> x.dispute(1, 1));
        REFUSED.notNow("one that is unplugged, its values waiting", busy, x -> x.dispute(2, 1));
        REFUSED.notNow("one that goes on, its link down", busy, x -> x.dispute(3, 1));
        REFUSED.notNow("one that goes on", busy, x -> x.dispute(4, 1));
        // 20 minutes of 3000 watts in the night at 300 cents, and 100 cents of the start
        taken("one that is billed", busy, x -> x.dispute(0, 100), 400);
        // 15 minutes of 3100 watts and 5 of 1400 in the night at 302 cents, and 102 cents of the start
        taken("one whose values are heard now", busy.and(x -> x.link(2, true)), x -> x.dispute(2, 100), 371);
        REFUSED.notNow("a second time", busy.and(x -> x.dispute(0, 1)), x -> x.dispute(0, 1));
    }
}
