/** The document's Terms, "Sessions": a test for each sentence that names an edge. */
public final class EdgesOfSessionsTest {
    private static final Check CHECK = new Check("EdgesOfSessionsTest");
    private static final int[] REASONS = {
        ChargeYard.FAULT, ChargeYard.TAKEN, ChargeYard.CARD, ChargeYard.BOOKED, ChargeYard.AWAY
    };

    public static void main(String[] args) {
        sessionsFrom0AtMost40();
        untilItIsUnplugged();
        theFirstThatApplies();
        cardIfTheLinkIsDown();
        bookingOfAnotherCard();
        bookingOfTheSocket();
        carInAnotherSession();
        ranks0To3();
        anotherMinuteExcluded();
        bookingsOfTheMostMinutes();
        holdsFromItsBeginning();
        holdsAtOnce();
        goesAsItsCardBegins();
        doesNotGoAheadOfItsBeginning();
        doesNotGoByAnotherSession();
        oneThatWasThereAhead();
        goesBehind15Minutes();
        goesInTheMidstOfManyMinutes();
        bookingsSideBySide();
        noMinuteInCommonUntilItHasGone();
        bookingsCounted();
        manyBookings();
        CHECK.end();
    }

    /** "Sessions are numbered from 0, at most 40" */
    private static void sessionsFrom0AtMost40() {
        ChargeYard x = History.of(8, 8, 1).yard();
        for (int i = 0; i < 40; i++) {
            int next = i;
            CHECK.noSuch("the session " + i + " ahead of it", () -> x.of(next, 4));
            if (i >= 8) {
                x.unplug(i - 8);
            }
            CHECK.due("the session " + i, x.plug(i % 8, i % 8, 0), i);
            CHECK.due("the session " + i + " goes on", x.of(i, 4), 1);
        }
        CHECK.notNow("the session 40, refused", () -> x.plug(0, 0, 0));
        x.unplug(39);
        CHECK.notNow("the session 40", () -> x.plug(7, 7, 0));
        CHECK.noSuch("the session 40", () -> x.of(40, 4));
    }

    /** "goes on until it is unplugged" */
    private static void untilItIsUnplugged() {
        ChargeYard x = History.of(1, 1, 1).then(y -> y.plug(0, 0, 0)).yard();
        x.good(0, false);
        x.fault(0, true);
        x.link(0, false);
        x.pass(120);
        CHECK.due("behind all that", x.of(0, 4), 1);
        CHECK.due("its values", x.of(0, 2), 120);
        x.unplug(0);
        x.pass(1);
        CHECK.due("unplugged", x.of(0, 4), 2);
        CHECK.due("no value more", x.of(0, 2), 120);
    }

    /** "the first of these that applies": all 32 ways in which the five can apply together. */
    private static void theFirstThatApplies() {
        for (int mask = 0; mask < 32; mask++) {
            for (int why = 1; why <= 3; why++) {
                int due = mask == 0 ? 0 : REASONS[Integer.numberOfTrailingZeros(mask)];
                CHECK.due("reasons " + mask + ", card " + why, refusing(mask, why).plug(0, 0, 0), due);
            }
        }
    }

    /** Of why, the bit 1 lets the card be not good, the bit 2 lets the link be down. */
    private static ChargeYard refusing(int mask, int why) {
        History made = History.of(2, 3, 3);
        if ((mask & 2) != 0) {
            made.then(x -> x.plug(0, 1, 1));
        }
        if ((mask & 8) != 0) {
            made.then(x -> x.book(0, 2, 0, 15));
        }
        if ((mask & 16) != 0) {
            made.then(x -> x.plug(1, 0, 1));
        }
        if ((mask & 1) != 0) {
            made.then(x -> x.fault(0, true));
        }
        if ((mask & 4) != 0) {
            made.then(x -> x.good(0, (why & 1) == 0)).then(x -> x.link(0, (why & 2) == 0));
        }
        return made.yard();
    }

    /** "the card is not good, or, if the link of the socket is down, is not in the list of the day" */
    private static void cardIfTheLinkIsDown() {
        History day1 = History.of(2, 2, 3).then(x -> x.good(1, false)).pass(1440).then(x -> x.link(0, false));
        CHECK.due("good and in the list, link down", day1.yard().plug(0, 0, 0), 0);
        History good = day1.and(x -> x.good(1, true));
        CHECK.due("good, not in the list, link down", good.yard().plug(0, 0, 1), ChargeYard.CARD);
        CHECK.due("good, not in the list, link up", good.yard().plug(1, 0, 1), 0);
        CHECK.due("good, not in the list, link up again", good.and(x -> x.link(0, true)).yard().plug(0, 0, 1), 0);
        History bad = day1.and(x -> x.good(0, false));
        CHECK.due("not good, in the list, link down", bad.yard().plug(0, 0, 0), ChargeYard.CARD);
        CHECK.due("not good, in the list, link up", bad.yard().plug(1, 0, 0), ChargeYard.CARD);
        CHECK.due("neither, link down", day1.yard().plug(0, 0, 1), ChargeYard.CARD);
        CHECK.due("neither, link up", day1.yard().plug(1, 0, 1), ChargeYard.CARD);
    }

    /** "BOOKED, a booking of another card for the socket holds now" */
    private static void bookingOfAnotherCard() {
        History booked = History.of(2, 2, 2).then(x -> x.book(0, 1, 0, 15));
        CHECK.due("another card", booked.yard().plug(0, 0, 0), ChargeYard.BOOKED);
        CHECK.due("its own card", booked.yard().plug(0, 0, 1), 0);
    }

    /** "for the socket": another socket is free. */
    private static void bookingOfTheSocket() {
        History booked = History.of(2, 2, 2).then(x -> x.book(1, 1, 0, 15));
        CHECK.due("the other socket", booked.yard().plug(0, 0, 0), 0);
        CHECK.due("the socket", booked.yard().plug(1, 0, 0), ChargeYard.BOOKED);
    }

    /** "AWAY, the car is in another session": until that is unplugged. */
    private static void carInAnotherSession() {
        ChargeYard x = History.of(3, 2, 1).then(y -> y.plug(0, 0, 0)).yard();
        CHECK.due("at another socket", x.plug(1, 0, 0), ChargeYard.AWAY);
        CHECK.due("another car by the same card", x.plug(1, 1, 0), 1);
        x.unplug(1);
        CHECK.due("still in another session", x.plug(1, 0, 0), ChargeYard.AWAY);
        x.unplug(0);
        CHECK.due("in none", x.plug(1, 0, 0), 2);
    }

    /** "a rank, that of the card, 0 to 3": each is ahead of all that are lesser. */
    private static void ranks0To3() {
        ChargeYard x = History.of(4, 4, 0).yard();
        for (int rank = 0; rank < 4; rank++) {
            x.card(0, rank);
            x.plug(rank, rank, rank);
        }
        for (int served = 1; served <= 4; served++) {
            x.set(0, 1400 * served);
            for (int rank = 0; rank < 4; rank++) {
                CHECK.due("rank " + rank + " of " + served, x.power(rank), rank >= 4 - served ? 1400 : 0);
            }
        }
    }

    /** "from a minute on up to another one, that excluded" */
    private static void anotherMinuteExcluded() {
        History booked = History.of(1, 1, 2).then(x -> x.book(0, 0, 100, 15));
        CHECK.due("up to its first", booked.yard().book(0, 1, 85, 15), 2);
        CHECK.notNow("its first too", () -> booked.yard().book(0, 1, 85, 16));
        CHECK.notNow("up to its second", () -> booked.yard().book(0, 1, 86, 15));
        CHECK.notNow("from its last on", () -> booked.yard().book(0, 1, 114, 15));
        CHECK.due("from the one behind its last on", booked.yard().book(0, 1, 115, 15), 2);
        CHECK.notNow("just the same minutes", () -> booked.yard().book(0, 1, 100, 15));
        CHECK.notNow("just the same card and minutes", () -> booked.yard().book(0, 0, 100, 15));
    }

    /** The same of one of 600 minutes, the most that promise 10 takes. */
    private static void bookingsOfTheMostMinutes() {
        History booked = History.of(1, 1, 2).then(x -> x.book(0, 0, 1000, 600));
        CHECK.due("just ahead, the most minutes", booked.yard().book(0, 1, 400, 600), 2);
        CHECK.notNow("one more ahead", () -> booked.yard().book(0, 1, 401, 600));
        CHECK.notNow("in its midst", () -> booked.yard().book(0, 1, 1300, 15));
        CHECK.notNow("from its last on", () -> booked.yard().book(0, 1, 1599, 600));
        CHECK.due("just behind, the most minutes", booked.yard().book(0, 1, 1600, 600), 2);
    }

    /** "It holds from its beginning on" */
    private static void holdsFromItsBeginning() {
        History booked = History.of(1, 1, 2).then(x -> x.book(0, 0, 100, 20));
        CHECK.due("in the minute ahead", booked.pass(99).yard().plug(0, 0, 1), 0);
        CHECK.due("in its first minute", booked.pass(1).yard().plug(0, 0, 1), ChargeYard.BOOKED);
    }

    /** A booking from now on holds now. */
    private static void holdsAtOnce() {
        History booked = History.of(1, 1, 2).pass(7).then(x -> x.book(0, 0, 7, 15));
        CHECK.due("in the minute in which it is booked", booked.yard().plug(0, 0, 1), ChargeYard.BOOKED);
        CHECK.due("by its card", booked.yard().plug(0, 0, 0), 0);
    }

    /** "goes as its card begins a session there while it holds": in its first minute, and in its fifteenth. */
    private static void goesAsItsCardBegins() {
        for (int minutes : new int[] {0, 1, 14}) {
            ChargeYard x = History.of(1, 2, 2).then(y -> y.book(0, 0, 3, 600)).pass(3 + minutes).yard();
            CHECK.due("its card, " + minutes + " minutes behind", x.plug(0, 0, 0), 0);
            CHECK.due("its minutes are free, " + minutes, x.book(0, 1, 18, 500), 1);
            x.unplug(0);
            CHECK.due("another card, " + minutes, x.plug(0, 0, 1), 1);
        }
    }

    /** "while it holds": not by a session that is begun and unplugged in the minute ahead. */
    private static void doesNotGoAheadOfItsBeginning() {
        ChargeYard x = History.of(1, 1, 2).then(y -> y.book(0, 0, 3, 600)).pass(2).yard();
        CHECK.due("its card, a minute ahead", x.plug(0, 0, 0), 0);
        x.unplug(0);
        CHECK.notNow("its minutes are not free", () -> x.book(0, 1, 602, 15));
        x.pass(1);
        CHECK.due("another card in its first minute", x.plug(0, 0, 1), ChargeYard.BOOKED);
    }

    /** "its card begins a session there": not one of the card elsewhere, nor one that is refused. */
    private static void doesNotGoByAnotherSession() {
        ChargeYard x = History.of(2, 2, 2).then(y -> y.book(0, 0, 0, 600)).yard();
        CHECK.due("its card elsewhere", x.plug(1, 0, 0), 0);
        CHECK.due("another card behind that", x.plug(0, 1, 1), ChargeYard.BOOKED);
        CHECK.due("its card, refused", x.plug(0, 0, 0), ChargeYard.AWAY);
        CHECK.due("another card behind that too", x.plug(0, 1, 1), ChargeYard.BOOKED);
        CHECK.due("its card", x.plug(0, 1, 0), 1);
    }

    /** "one that was there ahead of it does not count": neither ahead of its first minute nor in that. */
    private static void oneThatWasThereAhead() {
        History there = History.of(1, 1, 2).then(x -> x.plug(0, 0, 0));
        History ahead = there.and(x -> x.book(0, 0, 1, 600)).pass(1).then(x -> x.unplug(0));
        CHECK.due("ahead of its first minute", ahead.yard().plug(0, 0, 1), ChargeYard.BOOKED);
        History now = there.and(x -> x.book(0, 0, 0, 600)).then(x -> x.unplug(0));
        CHECK.due("in its first minute, ahead of the call", now.yard().plug(0, 0, 1), ChargeYard.BOOKED);
        ChargeYard x = there.and(y -> y.book(0, 0, 1, 600)).pass(15).yard();
        CHECK.notNow("in its fifteenth minute, its card there", () -> x.book(0, 1, 16, 15));
        x.pass(1);
        CHECK.due("behind 15 minutes, its card there", x.book(0, 1, 16, 15), 1);
    }

    /** "or behind 15 minutes of holding without that": those of 15 minutes, of one more, and of the most. */
    private static void goesBehind15Minutes() {
        for (int minutes : new int[] {15, 16, 600}) {
            History held = History.of(1, 1, 2).then(x -> x.book(0, 0, 10, minutes)).pass(24);
            CHECK.due("in its fifteenth minute, of " + minutes, held.yard().plug(0, 0, 1), ChargeYard.BOOKED);
            CHECK.notNow("its minutes then", () -> held.yard().book(0, 1, 24, 15));
            held.pass(1);
            CHECK.due("behind that, of " + minutes, held.yard().plug(0, 0, 1), 0);
            CHECK.due("its minutes then", held.yard().book(0, 1, 25, 15), 1);
        }
    }

    /** The same within one call of promise 13. */
    private static void goesInTheMidstOfManyMinutes() {
        History booked = History.of(2, 1, 2).then(x -> x.book(0, 0, 30, 15)).then(x -> x.book(1, 0, 106, 15));
        ChargeYard x = booked.pass(120).yard();
        CHECK.due("long gone", x.plug(0, 0, 1), 0);
        x.unplug(0);
        CHECK.due("in its fifteenth minute", x.plug(1, 0, 1), ChargeYard.BOOKED);
    }

    /** "No two bookings of a socket that have not gone have a minute in common.": but side by side they may be. */
    private static void bookingsSideBySide() {
        History both = History.of(1, 1, 3).then(x -> x.book(0, 1, 15, 15)).then(x -> x.book(0, 0, 0, 15)).pass(14);
        CHECK.due("the second's card in the first one's last minute", both.yard().plug(0, 0, 1), ChargeYard.BOOKED);
        CHECK.due("the first one's card in its last minute", both.yard().plug(0, 0, 0), 0);
        both.pass(1);
        CHECK.due("the first's card in the second one's first minute", both.yard().plug(0, 0, 0), ChargeYard.BOOKED);
        CHECK.due("the second one's card in its first minute", both.yard().plug(0, 0, 1), 0);
    }

    /** "that have not gone": once it has gone by its card, its minutes are free, all of them. */
    private static void noMinuteInCommonUntilItHasGone() {
        ChargeYard x = History.of(2, 1, 2).then(y -> y.book(0, 0, 0, 600)).yard();
        CHECK.notNow("ahead of it", () -> x.book(0, 1, 0, 600));
        CHECK.due("another socket", x.book(1, 1, 0, 600), 1);
        x.plug(0, 0, 0);
        CHECK.due("behind it", x.book(0, 1, 0, 600), 1);
        x.unplug(0);
        CHECK.due("the new one holds", x.plug(0, 0, 0), ChargeYard.BOOKED);
    }

    /** Promise 10: "how many bookings of the socket there are then, which hold or will" */
    private static void bookingsCounted() {
        ChargeYard x = History.of(2, 1, 2).yard();
        CHECK.due("the first", x.book(0, 0, 0, 15), 1);
        CHECK.due("of another socket", x.book(1, 0, 0, 15), 1);
        CHECK.due("one that will", x.book(0, 0, 19000, 15), 2);
        x.pass(14);
        CHECK.due("one that holds in its fifteenth minute", x.book(0, 0, 50, 15), 3);
        x.pass(1);
        CHECK.due("one that has gone", x.book(0, 0, 70, 15), 3);
        CHECK.due("of another socket, one that has gone", x.book(1, 0, 50, 15), 1);
    }

    /** No most number of bookings is told: as many as 512 calls can make. */
    private static void manyBookings() {
        ChargeYard x = History.of(1, 1, 2).yard();
        for (int i = 0; i < 480; i++) {
            CHECK.due("the booking " + i, x.book(0, 0, 15 * i, 15), i + 1);
        }
        CHECK.notNow("in the midst of these", () -> x.book(0, 0, 3000, 15));
        CHECK.due("another card", x.plug(0, 0, 1), ChargeYard.BOOKED);
        CHECK.due("their card", x.plug(0, 0, 0), 0);
        CHECK.due("behind these", x.book(0, 0, 7200, 15), 480);
    }
}
