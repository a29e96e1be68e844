/**
 * The argument tables of promises 1 to 23: of each argument the last value that is taken and the first that is refused,
 * on both sides, and the farthest of all; a number of nothing, where there is nothing yet and where there is the most;
 * and that what is refused changes nothing.
 */
public final class RangesTest {
    private static final Check CHECK = new Check("RangesTest");
    private static final Refusals REFUSED = new Refusals(CHECK);

    interface Call {
        void with(ChargeYard x, int value);
    }

    public static void main(String[] args) {
        promise2Socket();
        promise3Car();
        promise4Card();
        promise5Good();
        promise6Set();
        promise7Fault();
        promise8Link();
        promise9Tariff();
        promise10Book();
        promise11Plug();
        promise12Unplug();
        promise13Pass();
        promise14Of();
        promise15Charge();
        promises16And17Power();
        promises19And20Bill();
        promise21Dispute();
        promise22Owes();
        promise23Account();
        CHECK.end();
    }

    private static void range(String argument, int least, int most, History ahead, Call call) {
        for (int value : new int[] {least, most}) {
            taken(argument, value, ahead, call);
        }
        for (int value : new int[] {least - 1, most + 1, Integer.MIN_VALUE, Integer.MAX_VALUE}) {
            REFUSED.outOfRange(argument + " " + value, ahead, x -> call.with(x, value));
        }
    }

    /** There are the numbers 0 to count less 1, if any. */
    private static void numbers(String argument, int count, History ahead, Call call) {
        if (count > 0) {
            taken(argument, 0, ahead, call);
            taken(argument, count - 1, ahead, call);
        }
        for (int value : new int[] {-1, count, Integer.MIN_VALUE, Integer.MAX_VALUE}) {
            REFUSED.noSuch(argument + " " + value + " of " + count, ahead, x -> call.with(x, value));
        }
    }

    private static void taken(String argument, int value, History ahead, Call call) {
        ChargeYard x = ahead.yard();
        CHECK.due(argument + " " + value, Check.thrownBy(() -> call.with(x, value)), "nothing");
    }

    private static History none() {
        return new History();
    }

    /** 8 sockets, 12 cars, 12 cards. */
    private static History most() {
        return History.of(8, 12, 12);
    }

    /** So many sessions, of which the last eight go on. */
    private static History sessions(int count) {
        History made = most();
        for (int i = 0; i < count; i++) {
            int number = i;
            made.then(x -> x.plug(number % 8, number % 8, 0));
            if (i < count - 8) {
                made.then(x -> x.unplug(number));
            }
        }
        return made;
    }

    private static History billed(int count) {
        History made = most();
        for (int i = 0; i < count; i++) {
            int number = i;
            made.then(x -> x.plug(0, 0, 0)).then(x -> x.unplug(number));
        }
        return made;
    }

    private static void promise2Socket() {
        numbers("socket: firm", 3, none(), (x, value) -> x.socket(value, 1400));
        range("socket: power", 1400, 50000, none(), (x, value) -> x.socket(0, value));
        range("socket: power of the last", 1400, 50000, History.of(7, 0, 0), (x, value) -> x.socket(2, value));
    }

    private static void promise3Car() {
        range("car: capacity", 1, 6000000, none(), (x, value) -> x.car(value, 0, 1));
        range("car: charge", 0, 6000000, none(), (x, value) -> x.car(6000000, value, 1));
        range("car: charge of the least capacity", 0, 1, none(), (x, value) -> x.car(1, value, 1));
        range("car: charge of some capacity", 0, 777, none(), (x, value) -> x.car(777, value, 1));
        range("car: power", 1, 50000, none(), (x, value) -> x.car(10, 5, value));
        range("car: capacity, full", 1, 6000000, none(), (x, value) -> x.car(value, value, 1));
    }

    private static void promise4Card() {
        numbers("card: firm", 3, none(), (x, value) -> x.card(value, 0));
        range("card: rank", 0, 3, none(), (x, value) -> x.card(2, value));
    }

    private static void promise5Good() {
        numbers("good: card", 0, none(), (x, value) -> x.good(value, false));
        numbers("good: card", 1, History.of(0, 0, 1), (x, value) -> x.good(value, false));
        numbers("good: card", 12, most(), (x, value) -> x.good(value, false));
        numbers("good: card", 4, History.busy(), (x, value) -> x.good(value, false));
    }

    private static void promise6Set() {
        range("set: what", 0, 2, none(), (x, value) -> x.set(value, 0));
        range("set: the limit", 0, 200000, none(), (x, value) -> x.set(0, value));
        range("set: the sun", 0, 100000, none(), (x, value) -> x.set(1, value));
        range("set: the degrees", -50, 50, none(), (x, value) -> x.set(2, value));
        range("set: what, of a busy yard", 0, 2, History.busy(), (x, value) -> x.set(value, 17));
        range("set: the limit of a busy yard", 0, 200000, History.busy(), (x, value) -> x.set(0, value));
        range("set: the sun of a busy yard", 0, 100000, History.busy(), (x, value) -> x.set(1, value));
        range("set: the degrees of a busy yard", -50, 50, History.busy(), (x, value) -> x.set(2, value));
    }

    private static void promise7Fault() {
        numbers("fault: socket", 0, none(), (x, value) -> x.fault(value, true));
        numbers("fault: socket", 1, History.of(1, 0, 0), (x, value) -> x.fault(value, true));
        numbers("fault: socket", 8, most(), (x, value) -> x.fault(value, true));
        numbers("fault: socket", 3, History.busy(), (x, value) -> x.fault(value, true));
    }

    private static void promise8Link() {
        for (boolean isUp : new boolean[] {false, true}) {
            numbers("link: socket", 0, none(), (x, value) -> x.link(value, isUp));
            numbers("link: socket", 1, History.of(1, 0, 0), (x, value) -> x.link(value, isUp));
            numbers("link: socket", 8, most(), (x, value) -> x.link(value, isUp));
            numbers("link: socket", 3, History.busy(), (x, value) -> x.link(value, isUp));
        }
    }

    private static void promise9Tariff() {
        History busy = History.busy();
        numbers("tariff: firm", 3, busy, (x, value) -> x.tariff(value, 1, 2, 3, 4));
        range("tariff: start", 0, 1000, busy, (x, value) -> x.tariff(0, value, 2, 3, 4));
        range("tariff: day", 0, 1000, busy, (x, value) -> x.tariff(1, 1, value, 3, 4));
        range("tariff: night", 0, 1000, busy, (x, value) -> x.tariff(2, 1, 2, value, 4));
        range("tariff: idle", 0, 1000, busy, (x, value) -> x.tariff(0, 1, 2, 3, value));
    }

    private static void promise10Book() {
        numbers("book: socket", 0, History.of(0, 0, 1), (x, value) -> x.book(value, 0, 0, 15));
        numbers("book: card", 0, History.of(1, 0, 0), (x, value) -> x.book(0, value, 0, 15));
        numbers("book: socket", 8, most(), (x, value) -> x.book(value, 0, 0, 15));
        numbers("book: card", 12, most(), (x, value) -> x.book(0, value, 0, 15));
        range("book: from, at first", 0, 20000, most(), (x, value) -> x.book(0, 0, value, 15));
        range("book: from", 7, 20000, most().pass(7), (x, value) -> x.book(0, 0, value, 600));
        range("book: from, of a busy yard", 1457, 20000, History.busy(), (x, value) -> x.book(0, 1, value, 15));
        History end = most().pass(20000);
        range("book: from, at the end", 20000, 20000, end, (x, value) -> x.book(0, 0, value, 15));
        range("book: minutes", 15, 600, most(), (x, value) -> x.book(0, 0, 0, value));
        range("book: minutes from the last on", 15, 600, most(), (x, value) -> x.book(0, 0, 20000, value));
    }

    private static void promise11Plug() {
        numbers("plug: socket", 0, History.of(0, 1, 1), (x, value) -> x.plug(value, 0, 0));
        numbers("plug: car", 0, History.of(1, 0, 1), (x, value) -> x.plug(0, value, 0));
        numbers("plug: card", 0, History.of(1, 1, 0), (x, value) -> x.plug(0, 0, value));
        numbers("plug: socket", 8, most(), (x, value) -> x.plug(value, 0, 0));
        numbers("plug: car", 12, most(), (x, value) -> x.plug(0, value, 0));
        numbers("plug: card", 12, most(), (x, value) -> x.plug(0, 0, value));
        numbers("plug: socket of a busy yard", 3, History.busy(), (x, value) -> x.plug(value, 4, 0));
        numbers("plug: car of a busy yard", 5, History.busy(), (x, value) -> x.plug(0, value, 0));
        numbers("plug: card of a busy yard", 4, History.busy(), (x, value) -> x.plug(0, 4, value));
    }

    private static void promise12Unplug() {
        numbers("unplug: session", 0, most(), (x, value) -> x.unplug(value));
        numbers("unplug: session", 1, sessions(1), (x, value) -> x.unplug(value));
        numbers("unplug: session", 8, sessions(8), (x, value) -> x.unplug(value));
        CHECK.due("unplug: session 39", Check.thrownBy(() -> sessions(40).yard().unplug(39)), "nothing");
        REFUSED.noSuch("unplug: session 40 of 40", sessions(40), x -> x.unplug(40));
        REFUSED.noSuch("unplug: session -1 of 40", sessions(40), x -> x.unplug(-1));
    }

    private static void promise13Pass() {
        range("pass: minutes", 1, 120, none(), (x, value) -> x.pass(value));
        range("pass: minutes of a busy yard", 1, 120, History.busy(), (x, value) -> x.pass(value));
    }

    private static void promise14Of() {
        for (int i = 0; i < 7; i++) {
            int what = i;
            numbers("of: session, " + what, 0, most(), (x, value) -> x.of(value, what));
            numbers("of: session, " + what, 40, sessions(40), (x, value) -> x.of(value, what));
        }
        range("of: what", 0, 6, sessions(1), (x, value) -> x.of(0, value));
        range("of: what, billed", 0, 6, billed(1), (x, value) -> x.of(0, value));
    }

    private static void promise15Charge() {
        numbers("charge: car", 0, none(), (x, value) -> x.charge(value));
        numbers("charge: car", 1, History.of(0, 1, 0), (x, value) -> x.charge(value));
        numbers("charge: car", 12, most(), (x, value) -> x.charge(value));
    }

    private static void promises16And17Power() {
        for (int count : new int[] {0, 1, 40}) {
            numbers("power: session", count, sessions(count), (x, value) -> x.power(value));
            numbers("powerAnew: session", count, sessions(count), (x, value) -> x.powerAnew(value));
        }
    }

    private static void promises19And20Bill() {
        for (int count : new int[] {0, 1, 40}) {
            numbers("bill: session", count, sessions(count), (x, value) -> x.bill(value));
            numbers("billAnew: session", count, sessions(count), (x, value) -> x.billAnew(value));
        }
    }

    private static void promise21Dispute() {
        for (int count : new int[] {0, 1, 40}) {
            numbers("dispute: session", count, billed(count), (x, value) -> x.dispute(value, 50));
        }
        range("dispute: hundredths", 1, 100, billed(1), (x, value) -> x.dispute(0, value));
        range("dispute: hundredths of a busy yard", 1, 100, History.busy(), (x, value) -> x.dispute(0, value));
    }

    private static void promise22Owes() {
        numbers("owes: card", 0, none(), (x, value) -> x.owes(value));
        numbers("owes: card", 1, History.of(0, 0, 1), (x, value) -> x.owes(value));
        numbers("owes: card", 12, most(), (x, value) -> x.owes(value));
    }

    private static void promise23Account() {
        numbers("account: firm", 3, none(), (x, value) -> x.account(value));
        numbers("account: firm of a busy yard", 3, History.busy(), (x, value) -> x.account(value));
    }
}
