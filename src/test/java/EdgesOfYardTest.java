/** The document's Terms, "Sockets, cars, cards": a test for each sentence that names an edge. */
public final class EdgesOfYardTest {
    private static final Check CHECK = new Check("EdgesOfYardTest");

    public static void main(String[] args) {
        newObjectBesideAnother();
        minutesFrom0();
        minutesUpTo20000();
        aDayHas1440();
        firms0To2();
        socketsFrom0AtMost8();
        socketsMayBeFaulty();
        carsFrom0AtMost12();
        cardsFrom0AtMost12();
        cardsGoodAtFirst();
        listAsTheDayBegan();
        listNoneOnTheDay0();
        listHasNoneThatCameBehind();
        listOfTheNextDay();
        halfAtEightTenths();
        halfRoundedDown();
        degreesBelow0();
        coldRoundedDown();
        halfAheadOfTheCold();
        atMostWhatItLacks();
        CHECK.end();
    }

    /** Promise 1: "No sockets, cars and cards; the minute 0; it is 20 degrees.": whatever another object has. */
    private static void newObjectBesideAnother() {
        History.busy().yard();
        ChargeYard x = new ChargeYard();
        CHECK.noSuch("the session 0", () -> x.of(0, 0));
        CHECK.due("no overloads", x.overloads(), 0);
        CHECK.due("20 degrees", x.set(2, 20), 20);
        CHECK.due("no sun", x.set(1, 0), 0);
        CHECK.due("the limit", x.set(0, 10000), 10000);
        CHECK.due("no sockets", x.socket(0, 1400), 0);
        CHECK.due("no cars", x.car(1, 0, 1), 0);
        CHECK.due("no cards", x.card(0, 0), 0);
        CHECK.due("no bookings", x.book(0, 0, 0, 15), 1);
        CHECK.due("no sessions", x.plug(0, 0, 0), 0);
        CHECK.due("no tariff", x.bill(0), 0);
        CHECK.due("the minute 0", x.pass(1), 1);
    }

    /** "Minutes are counted from 0 .." */
    private static void minutesFrom0() {
        ChargeYard x = History.of(1, 1, 1).yard();
        CHECK.outOfRange("booked ahead of the minute 0", () -> x.book(0, 0, -1, 15));
        CHECK.due("booked from the minute 0 on", x.book(0, 0, 0, 15), 1);
        CHECK.due("the minute behind the minute 0", x.pass(1), 1);
        CHECK.outOfRange("booked from the minute 0 on in the minute 1", () -> x.book(0, 0, 0, 15));
    }

    /** ".. up to 20000" */
    private static void minutesUpTo20000() {
        ChargeYard x = History.of(1, 1, 1).pass(19999).yard();
        CHECK.due("booked from the minute 20000 on", x.book(0, 0, 20000, 15), 1);
        CHECK.due("the last minute", x.pass(1), 20000);
        CHECK.notNow("one beyond the last", () -> x.pass(1));
        CHECK.outOfRange("booked from the minute 20001 on", () -> x.book(0, 0, 20001, 15));
        CHECK.outOfRange("booked from the minute 19999 on", () -> x.book(0, 0, 19999, 15));
        x.card(0, 0);
        x.card(0, 0);
        CHECK.due("the booking of the last minute holds", x.plug(0, 0, 1), ChargeYard.BOOKED);
        CHECK.due("its card begins in the last minute", x.plug(0, 0, 0), 0);
    }

    /** "a day has 1440" */
    private static void aDayHas1440() {
        ChargeYard x = History.of(1, 1, 1).then(y -> y.link(0, false)).pass(1439).yard();
        CHECK.due("in the minute 1439, of the day 0", x.plug(0, 0, 0), ChargeYard.CARD);
        x.pass(1);
        CHECK.due("in the minute 1440, of the day 1", x.plug(0, 0, 0), 0);
    }

    /** "There are the firms 0 to 2." */
    private static void firms0To2() {
        ChargeYard x = new ChargeYard();
        CHECK.noSuch("the firm -1", () -> x.account(-1));
        for (int firm = 0; firm <= 2; firm++) {
            CHECK.due("the firm " + firm, x.account(firm), 0);
        }
        CHECK.noSuch("the firm 3", () -> x.account(3));
    }

    /** "Sockets are numbered from 0, at most 8" */
    private static void socketsFrom0AtMost8() {
        ChargeYard x = new ChargeYard();
        for (int i = 0; i < 8; i++) {
            int next = i;
            CHECK.noSuch("the socket " + i + " ahead of it", () -> x.fault(next, false));
            CHECK.due("the socket " + i, x.socket(2 - i % 3, 50000), i);
            CHECK.due("the socket " + i + " is there", x.fault(i, false), false);
        }
        CHECK.notNow("the socket 8", () -> x.socket(0, 50000));
        CHECK.noSuch("the socket 8", () -> x.fault(8, false));
    }

    /** "a socket may be FAULTY": at first it is not, and promise 2: "its link is up" */
    private static void socketsMayBeFaulty() {
        ChargeYard x = History.of(2, 1, 1).yard();
        CHECK.due("a new one", x.fault(0, true), false);
        CHECK.due("one that is", x.plug(0, 0, 0), ChargeYard.FAULT);
        CHECK.due("the other one is not", x.plug(1, 0, 0), 0);
        x.pass(1);
        CHECK.due("a value is heard by a new link", x.of(0, 3), 1);
    }

    /** "Cars are numbered from 0, at most 12" */
    private static void carsFrom0AtMost12() {
        ChargeYard x = new ChargeYard();
        for (int i = 0; i < 12; i++) {
            int next = i;
            CHECK.noSuch("the car " + i + " ahead of it", () -> x.charge(next));
            CHECK.due("the car " + i, x.car(100 + i, i, 1), i);
            CHECK.due("the charge of the car " + i, x.charge(i), i);
        }
        CHECK.notNow("the car 12", () -> x.car(100, 0, 1));
        CHECK.noSuch("the car 12", () -> x.charge(12));
    }

    /** "Cards are numbered from 0, at most 12" */
    private static void cardsFrom0AtMost12() {
        ChargeYard x = new ChargeYard();
        for (int i = 0; i < 12; i++) {
            int next = i;
            CHECK.noSuch("the card " + i + " ahead of it", () -> x.owes(next));
            CHECK.due("the card " + i, x.card(i % 3, 3 - i % 4), i);
            CHECK.due("what the card " + i + " owes", x.owes(i), 0);
        }
        CHECK.notNow("the card 12", () -> x.card(0, 0));
        CHECK.noSuch("the card 12", () -> x.owes(12));
    }

    /** "of a firm, good at first" */
    private static void cardsGoodAtFirst() {
        ChargeYard x = History.of(1, 1, 2).yard();
        CHECK.due("a new card books", x.book(0, 0, 0, 15), 1);
        CHECK.due("a new card plugs", x.plug(0, 0, 0), 0);
        CHECK.due("a new card is good", x.good(1, true), true);
    }

    /** "the list of the day has those that were good as the day began": not a minute sooner or later. */
    private static void listAsTheDayBegan() {
        ChargeYard x = History.of(1, 1, 4).then(y -> y.link(0, false)).then(y -> y.good(0, false)).pass(1439).yard();
        x.good(0, true);
        x.good(1, false);
        x.pass(1);
        x.good(1, true);
        x.good(2, false);
        CHECK.due("good from the minute 1440 on", x.plug(0, 0, 1), ChargeYard.CARD);
        CHECK.due("not good any more in the minute 1440", x.plug(0, 0, 2), ChargeYard.CARD);
        x.good(2, true);
        CHECK.due("good from the minute 1439 on", x.plug(0, 0, 0), 0);
        x.unplug(0);
        CHECK.due("good once more, and in the list", x.plug(0, 0, 2), 1);
        x.unplug(1);
        CHECK.due("good all the time", x.plug(0, 0, 3), 2);
    }

    /** "none on the day 0": not of those that were good in its first minute, nor if the link was up ahead. */
    private static void listNoneOnTheDay0() {
        ChargeYard x = History.of(1, 1, 1).yard();
        x.link(0, false);
        CHECK.due("in the minute 0", x.plug(0, 0, 0), ChargeYard.CARD);
        x.link(0, true);
        CHECK.due("the link up in the minute 0", x.plug(0, 0, 0), 0);
        x.unplug(0);
        x.link(0, false);
        CHECK.due("a card that was there ahead", x.plug(0, 0, 0), ChargeYard.CARD);
    }

    /** "the list of the day": a card of the last minute of the day ahead is in it, one of the day's first is not. */
    private static void listHasNoneThatCameBehind() {
        ChargeYard x = History.of(1, 1, 0).then(y -> y.link(0, false)).pass(1439).yard();
        x.card(0, 0);
        x.pass(1);
        x.card(0, 0);
        CHECK.due("a card of the minute 1440", x.plug(0, 0, 1), ChargeYard.CARD);
        CHECK.due("a card of the minute 1439", x.plug(0, 0, 0), 0);
    }

    /** "the list of the day": each day has its own, up to its last minute. */
    private static void listOfTheNextDay() {
        History day1 = History.of(1, 1, 2).then(y -> y.link(0, false)).then(y -> y.good(0, false)).pass(1440);
        History last = day1.then(y -> y.good(0, true)).then(y -> y.good(1, false)).pass(1439);
        ChargeYard x = last.and(y -> y.good(1, true)).yard();
        CHECK.due("in the minute 2879, of the list still", x.plug(0, 0, 1), 0);
        ChargeYard y = last.yard();
        CHECK.due("in the minute 2879, not of the list still", y.plug(0, 0, 0), ChargeYard.CARD);
        y.pass(1);
        y.good(1, true);
        CHECK.due("in the minute 2880, not of the list any more", y.plug(0, 0, 1), ChargeYard.CARD);
        CHECK.due("in the minute 2880, of the list now", y.plug(0, 0, 0), 0);
    }

    /** What a car wants by itself: its socket and the cable can give far more. */
    private static void wants(int capacity, int charge, int power, int degrees, int due) {
        ChargeYard x = new ChargeYard();
        x.socket(0, 50000);
        x.card(0, 0);
        x.car(capacity, charge, power);
        x.set(0, 200000);
        x.set(2, degrees);
        x.plug(0, 0, 0);
        String car = "a car of " + capacity + ", " + charge + ", " + power + " at " + degrees;
        CHECK.due(car, x.power(0), due);
        CHECK.due(car + " anew", x.powerAnew(0), due);
    }

    /** "half of it .. if its charge is at least eight tenths of its capacity" */
    private static void halfAtEightTenths() {
        wants(10, 7, 2, 20, 2);
        wants(10, 8, 2, 20, 1);
        // eight tenths of 19 are 15.2, of 18 are 14.4
        wants(19, 15, 4, 20, 4);
        wants(19, 16, 4, 20, 2);
        wants(18, 14, 4, 20, 4);
        wants(18, 15, 2, 20, 1);
        wants(6000000, 4799999, 50000, 20, 50000);
        wants(6000000, 4800000, 50000, 20, 25000);
        wants(5999999, 4799999, 50000, 20, 50000);
        wants(5999999, 4800000, 50000, 20, 25000);
        wants(1, 0, 50000, 20, 1);
        wants(1, 1, 50000, 20, 0);
    }

    /** "half of it, rounded down" */
    private static void halfRoundedDown() {
        wants(100, 80, 5, 20, 2);
        wants(100, 80, 4, 20, 2);
        wants(100, 80, 1, 20, 0);
        wants(6000000, 4800000, 49999, 20, 24999);
    }

    /** "as it is some degrees below 0, that times (100 less these), divided by 100" */
    private static void degreesBelow0() {
        wants(600000, 0, 10000, 50, 10000);
        wants(600000, 0, 10000, 1, 10000);
        wants(600000, 0, 10000, 0, 10000);
        wants(600000, 0, 10000, -1, 9900);
        wants(600000, 0, 10000, -49, 5100);
        wants(600000, 0, 10000, -50, 5000);
        wants(6000000, 0, 50000, -50, 25000);
    }

    /** "divided by 100, rounded down" */
    private static void coldRoundedDown() {
        wants(600000, 0, 1, -1, 0);
        wants(600000, 0, 2, -50, 1);
        wants(600000, 0, 1, -50, 0);
        wants(600000, 0, 101, -1, 99);
        wants(600000, 0, 199, -1, 197);
        wants(600000, 0, 49999, -50, 24999);
    }

    /** "half of it, rounded down, ..; .. that times": half of 3 is 1, of which 99 hundredths are 0. */
    private static void halfAheadOfTheCold() {
        wants(100, 80, 3, -1, 0);
        wants(100, 79, 3, -1, 2);
        wants(100, 80, 9, -30, 2);
        wants(600000, 480000, 50000, -50, 12500);
    }

    /** "and at most what its charge lacks to its capacity" */
    private static void atMostWhatItLacks() {
        wants(100, 30, 71, 20, 70);
        wants(100, 30, 70, 20, 70);
        wants(100, 30, 69, 20, 69);
        wants(100, 80, 41, 20, 20);
        wants(100, 80, 40, 20, 20);
        wants(100, 80, 39, 20, 19);
        wants(100, 99, 50000, 20, 1);
        wants(100, 100, 50000, 20, 0);
        // of 100 watts the cold leaves 99: what it lacks is behind that
        wants(300, 199, 100, -1, 99);
        wants(300, 201, 100, -1, 99);
        wants(300, 202, 100, -1, 98);
    }
}
