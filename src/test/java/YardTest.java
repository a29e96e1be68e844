/** Promises 1 to 9: a new object, socket, car, card, good, set, fault, link, tariff. */
public final class YardTest {
    private static final Check CHECK = new Check("YardTest");

    public static void main(String[] args) {
        newObject();
        sockets();
        cars();
        cards();
        good();
        settings();
        faults();
        links();
        linksThatStayAsTheyAre();
        tariffs();
        tariffAtFirst();
        tariffRanges();
        CHECK.end();
    }

    private static void newObject() {
        ChargeYard x = new ChargeYard();
        CHECK.noSuch("charge(0) of a new one", () -> x.charge(0));
        CHECK.noSuch("owes(0) of a new one", () -> x.owes(0));
        CHECK.noSuch("fault(0, true) of a new one", () -> x.fault(0, true));
        CHECK.noSuch("bill(0) of a new one", () -> x.bill(0));
        CHECK.due("overloads of a new one", x.overloads(), 0);
        for (int firm = 0; firm < 3; firm++) {
            CHECK.due("account of a new one", x.account(firm), 0);
        }
        CHECK.due("the first limit", x.set(0, 1), 10000);
        CHECK.due("the first sun", x.set(1, 1), 0);
        CHECK.due("the first degrees", x.set(2, 1), 20);
        CHECK.due("the first minute", x.pass(1), 1);
    }

    private static void sockets() {
        ChargeYard x = new ChargeYard();
        CHECK.noSuch("socket(-1, 5000)", () -> x.socket(-1, 5000));
        CHECK.noSuch("socket(3, 5000)", () -> x.socket(3, 5000));
        CHECK.noSuch("socket(3, 0)", () -> x.socket(3, 0));
        CHECK.outOfRange("socket(0, 1399)", () -> x.socket(0, 1399));
        CHECK.outOfRange("socket(0, 50001)", () -> x.socket(0, 50001));
        CHECK.outOfRange("socket(0, least)", () -> x.socket(0, Integer.MIN_VALUE));
        for (int i = 0; i < 8; i++) {
            CHECK.due("socket " + i, x.socket(i % 3, i % 2 == 0 ? 1400 : 50000), i);
        }
        CHECK.notNow("a ninth socket", () -> x.socket(0, 5000));
        CHECK.noSuch("a ninth socket of firm 3", () -> x.socket(3, 5000));
        CHECK.outOfRange("a ninth socket of no power", () -> x.socket(0, 0));
        CHECK.due("link of the eighth", x.link(7, true), 0);
        CHECK.noSuch("link of the ninth", () -> x.link(8, true));
    }

    private static void cars() {
        ChargeYard x = new ChargeYard();
        CHECK.outOfRange("car(0, 0, 1)", () -> x.car(0, 0, 1));
        CHECK.outOfRange("car(6000001, 0, 1)", () -> x.car(6000001, 0, 1));
        CHECK.outOfRange("car(10, -1, 1)", () -> x.car(10, -1, 1));
        CHECK.outOfRange("car(10, 11, 1)", () -> x.car(10, 11, 1));
        CHECK.outOfRange("car(10, 10, 0)", () -> x.car(10, 10, 0));
        CHECK.outOfRange("car(10, 10, 50001)", () -> x.car(10, 10, 50001));
        CHECK.due("car(1, 0, 1)", x.car(1, 0, 1), 0);
        CHECK.due("car(6000000, 6000000, 50000)", x.car(6000000, 6000000, 50000), 1);
        CHECK.due("charge(0)", x.charge(0), 0);
        CHECK.due("charge(1)", x.charge(1), 6000000);
        for (int i = 2; i < 12; i++) {
            CHECK.due("car " + i, x.car(10, i % 10, 5), i);
        }
        CHECK.notNow("a thirteenth car", () -> x.car(10, 5, 5));
        CHECK.outOfRange("a thirteenth car of no power", () -> x.car(10, 5, 0));
        CHECK.noSuch("charge(12)", () -> x.charge(12));
        CHECK.noSuch("charge(-1)", () -> x.charge(-1));
    }

    private static void cards() {
        ChargeYard x = new ChargeYard();
        CHECK.noSuch("card(-1, 0)", () -> x.card(-1, 0));
        CHECK.noSuch("card(3, 9)", () -> x.card(3, 9));
        CHECK.outOfRange("card(0, -1)", () -> x.card(0, -1));
        CHECK.outOfRange("card(0, 4)", () -> x.card(0, 4));
        for (int i = 0; i < 12; i++) {
            CHECK.due("card " + i, x.card(i % 3, i % 4), i);
        }
        CHECK.notNow("a thirteenth card", () -> x.card(0, 0));
        CHECK.noSuch("a thirteenth card of firm 3", () -> x.card(3, 0));
        CHECK.outOfRange("a thirteenth card of rank 4", () -> x.card(0, 4));
        CHECK.noSuch("owes(12)", () -> x.owes(12));
    }

    private static void good() {
        ChargeYard x = new ChargeYard();
        CHECK.noSuch("good(0, true) without cards", () -> x.good(0, true));
        x.card(0, 0);
        CHECK.due("good at first", x.good(0, false), true);
        CHECK.due("good, not any more", x.good(0, false), false);
        CHECK.due("good, still not", x.good(0, true), false);
        CHECK.due("good again", x.good(0, true), true);
        CHECK.noSuch("good(1, false)", () -> x.good(1, false));
        CHECK.noSuch("good(-1, false)", () -> x.good(-1, false));
    }

    private static void settings() {
        ChargeYard x = new ChargeYard();
        CHECK.outOfRange("set(-1, 0)", () -> x.set(-1, 0));
        CHECK.outOfRange("set(3, 0)", () -> x.set(3, 0));
        CHECK.outOfRange("set(0, -1)", () -> x.set(0, -1));
        CHECK.outOfRange("set(0, 200001)", () -> x.set(0, 200001));
        CHECK.outOfRange("set(1, -1)", () -> x.set(1, -1));
        CHECK.outOfRange("set(1, 100001)", () -> x.set(1, 100001));
        CHECK.outOfRange("set(2, -51)", () -> x.set(2, -51));
        CHECK.outOfRange("set(2, 51)", () -> x.set(2, 51));
        CHECK.due("set(0, 200000)", x.set(0, 200000), 10000);
        CHECK.due("set(0, 0)", x.set(0, 0), 200000);
        CHECK.due("set(0, 7)", x.set(0, 7), 0);
        CHECK.due("set(1, 100000)", x.set(1, 100000), 0);
        CHECK.due("set(1, 0)", x.set(1, 0), 100000);
        CHECK.due("set(2, -50)", x.set(2, -50), 20);
        CHECK.due("set(2, 50)", x.set(2, 50), -50);
        CHECK.due("set(2, 0)", x.set(2, 0), 50);
    }

    private static void faults() {
        ChargeYard x = new ChargeYard();
        x.socket(0, 3000);
        CHECK.due("not faulty at first", x.fault(0, true), false);
        CHECK.due("faulty", x.fault(0, true), true);
        CHECK.due("faulty still", x.fault(0, false), true);
        CHECK.due("not faulty any more", x.fault(0, false), false);
        CHECK.noSuch("fault(1, true)", () -> x.fault(1, true));
        CHECK.noSuch("fault(-1, true)", () -> x.fault(-1, true));
    }

    /** Two sessions of one socket and one of another wait; what is heard is of the one socket. */
    private static void links() {
        ChargeYard x = yard();
        x.plug(0, 0, 0);
        x.plug(1, 1, 1);
        x.pass(3);
        CHECK.due("heard at once", x.of(0, 3), 3);
        CHECK.due("link(0, false)", x.link(0, false), 0);
        x.pass(4);
        CHECK.due("values made while down", x.of(0, 2), 7);
        CHECK.due("values heard while down", x.of(0, 3), 3);
        CHECK.due("values heard of a link that is up", x.of(1, 3), 7);
        CHECK.due("unplug while values wait", x.unplug(0), 4);
        x.link(1, false);
        x.pass(2);
        CHECK.due("an unplugged one has no more values", x.of(0, 2), 7);
        CHECK.due("all that waits is heard", x.link(0, true), 4);
        CHECK.due("values heard then", x.of(0, 3), 7);
        CHECK.due("values of the other socket wait on", x.of(1, 3), 7);
        CHECK.due("the other link", x.link(1, true), 2);
        CHECK.due("values heard of the other then", x.of(1, 3), 9);
        CHECK.noSuch("link(3, true)", () -> x.link(3, true));
        CHECK.noSuch("link(-1, false)", () -> x.link(-1, false));
    }

    private static void linksThatStayAsTheyAre() {
        ChargeYard x = yard();
        x.plug(0, 0, 0);
        x.pass(1);
        CHECK.due("up while it is up", x.link(0, true), 0);
        x.link(0, false);
        x.pass(4);
        CHECK.due("down while it is down", x.link(0, false), 0);
        CHECK.due("what it had, in the fifth minute", x.power(0), 3000);
        x.pass(1);
        CHECK.due("the minutes of being down go on", x.power(0), 1400);
        CHECK.due("all five are heard", x.link(0, true), 5);
        CHECK.due("none is heard twice", x.link(0, true), 0);
    }

    private static void tariffs() {
        ChargeYard x = yard();
        x.plug(0, 0, 0);
        x.tariff(0, 100, 0, 0, 0);
        x.tariff(1, 7, 0, 0, 0);
        x.plug(2, 1, 1);
        CHECK.due("the tariff at first", x.bill(0), 0);
        CHECK.due("the tariff of the socket's firm", x.bill(1), 7);
        x.unplug(0);
        x.plug(0, 0, 0);
        CHECK.due("sessions that begin from now on", x.bill(2), 100);
        CHECK.due("sessions that began ahead", x.bill(0), 0);
    }

    private static void tariffAtFirst() {
        ChargeYard x = yard();
        x.plug(0, 0, 0);
        for (int i = 0; i < 3; i++) {
            x.pass(120);
        }
        x.plug(1, 1, 1);
        x.pass(60);
        CHECK.due("energy of the night and idling", x.bill(0), 0);
        CHECK.due("energy of the day", x.bill(1), 0);
    }

    private static void tariffRanges() {
        ChargeYard x = new ChargeYard();
        CHECK.noSuch("tariff(-1, ..)", () -> x.tariff(-1, 0, 0, 0, 0));
        CHECK.noSuch("tariff(3, -1, ..)", () -> x.tariff(3, -1, 0, 0, 0));
        for (int i = 0; i < 4; i++) {
            for (int value : new int[] {-1, 1001}) {
                int[] row = {1, 1, 1, 1};
                row[i] = value;
                CHECK.outOfRange("tariff with " + value + " at " + i,
                        () -> x.tariff(0, row[0], row[1], row[2], row[3]));
            }
        }
        x.socket(0, 3000);
        x.car(10, 10, 10);
        x.card(0, 0);
        x.plug(0, 0, 0);
        CHECK.due("tariffs out of range change nothing", x.bill(0), 0);
        x.tariff(0, 0, 0, 0, 0);
        x.tariff(2, 1000, 1000, 1000, 1000);
    }

    /** Sockets of firms 0, 0 and 1, three empty cars of 3000 watts, cards of firms 0, 1 and 2. */
    private static ChargeYard yard() {
        ChargeYard x = new ChargeYard();
        x.socket(0, 5000);
        x.socket(0, 5000);
        x.socket(1, 5000);
        for (int i = 0; i < 3; i++) {
            x.car(600000, 0, 3000);
            x.card(i, 0);
        }
        return x;
    }
}
