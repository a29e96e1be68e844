/** Promises 12 to 15: unplug, pass, of and charge. */
public final class SessionTest {
    private static final Check CHECK = new Check("SessionTest");

    public static void main(String[] args) {
        aSession();
        unplugging();
        unpluggingWhileDown();
        passing();
        theEndOfTime();
        longSession();
        CHECK.end();
    }

    private static void aSession() {
        ChargeYard x = yard();
        x.plug(1, 0, 0);
        CHECK.due("power without a minute", x.of(0, 0), 0);
        CHECK.due("energy without a minute", x.of(0, 1), 0);
        CHECK.due("values without a minute", x.of(0, 2), 0);
        CHECK.due("heard without a minute", x.of(0, 3), 0);
        CHECK.due("it goes on", x.of(0, 4), 1);
        CHECK.due("its car", x.of(0, 5), 0);
        CHECK.due("its socket", x.of(0, 6), 1);
        x.pass(2);
        CHECK.due("power", x.of(0, 0), 3000);
        CHECK.due("energy", x.of(0, 1), 6000);
        CHECK.due("values", x.of(0, 2), 2);
        CHECK.due("heard", x.of(0, 3), 2);
        CHECK.due("charge", x.charge(0), 16000);
        CHECK.due("charge of the other", x.charge(1), 0);
        x.set(0, 2000);
        x.pass(1);
        CHECK.due("the latest power", x.of(0, 0), 2000);
        x.fault(1, true);
        x.pass(1);
        CHECK.due("no power of a faulty one", x.of(0, 0), 0);
        CHECK.due("a value of a faulty one", x.of(0, 2), 4);
        CHECK.due("energy stays", x.of(0, 1), 8000);
        CHECK.outOfRange("of(0, 7)", () -> x.of(0, 7));
        CHECK.outOfRange("of(0, -1)", () -> x.of(0, -1));
        CHECK.noSuch("of(1, 7)", () -> x.of(1, 7));
        CHECK.noSuch("of(-1, 0)", () -> x.of(-1, 0));
        CHECK.noSuch("charge(2)", () -> x.charge(2));
    }

    private static void unplugging() {
        ChargeYard x = yard();
        CHECK.noSuch("unplug without sessions", () -> x.unplug(0));
        x.plug(0, 0, 0);
        x.pass(3);
        CHECK.due("all is heard", x.unplug(0), 0);
        CHECK.due("billed", x.of(0, 4), 3);
        CHECK.notNow("unplug once more", () -> x.unplug(0));
        CHECK.noSuch("unplug(1)", () -> x.unplug(1));
        CHECK.noSuch("unplug(-1)", () -> x.unplug(-1));
        x.pass(1);
        CHECK.due("its power in its latest minute", x.of(0, 0), 3000);
        CHECK.due("no more values", x.of(0, 2), 3);
        CHECK.due("no more charge", x.charge(0), 19000);
        CHECK.due("the socket is free", x.plug(0, 1, 1), 1);
        CHECK.due("the car is free", x.plug(1, 0, 0), 2);
    }

    private static void unpluggingWhileDown() {
        ChargeYard x = yard();
        x.plug(0, 0, 0);
        x.pass(2);
        x.link(0, false);
        x.pass(3);
        CHECK.due("three are not heard", x.unplug(0), 3);
        CHECK.due("unplugged, not billed", x.of(0, 4), 2);
        CHECK.notNow("unplug what is not billed", () -> x.unplug(0));
        x.link(0, true);
        CHECK.due("billed as they are heard", x.of(0, 4), 3);
        x.plug(0, 0, 0);
        x.pass(1);
        x.link(0, false);
        CHECK.due("none waits", x.unplug(1), 0);
        CHECK.due("billed while the link is down", x.of(1, 4), 3);
    }

    private static void passing() {
        ChargeYard x = new ChargeYard();
        CHECK.outOfRange("pass(0)", () -> x.pass(0));
        CHECK.outOfRange("pass(-1)", () -> x.pass(-1));
        CHECK.outOfRange("pass(121)", () -> x.pass(121));
        CHECK.due("pass(1)", x.pass(1), 1);
        CHECK.due("pass(120)", x.pass(120), 121);
    }

    private static void theEndOfTime() {
        ChargeYard x = yard();
        for (int i = 1; i <= 166; i++) {
            CHECK.due("pass(120)", x.pass(120), 120 * i);
        }
        CHECK.notNow("pass(81)", () -> x.pass(81));
        CHECK.outOfRange("pass(121) near the end", () -> x.pass(121));
        CHECK.due("pass(79)", x.pass(79), 19999);
        x.plug(0, 0, 0);
        CHECK.due("book the last minute", x.book(0, 0, 20000, 600), 1);
        CHECK.due("pass(1) to the end", x.pass(1), 20000);
        CHECK.notNow("pass(1) beyond the end", () -> x.pass(1));
        CHECK.due("the refused minute gave nothing", x.of(0, 2), 1);
        CHECK.due("power at the end", x.power(0), 3000);
    }

    /** A session in all minutes that there are keeps all its values. */
    private static void longSession() {
        ChargeYard x = yard();
        x.tariff(0, 0, 0, 0, 1);
        x.link(1, true);
        x.car(100, 100, 100);
        x.plug(0, 2, 0);
        x.link(0, false);
        for (int i = 1; i <= 166; i++) {
            x.pass(120);
        }
        x.pass(80);
        CHECK.due("values", x.of(0, 2), 20000);
        CHECK.due("heard", x.of(0, 3), 0);
        CHECK.due("bill of none", x.bill(0), 0);
        CHECK.due("bill of all", x.billAnew(0), 19990);
        CHECK.due("unplug", x.unplug(0), 20000);
        CHECK.due("link up", x.link(0, true), 20000);
        CHECK.due("owes", x.owes(0), 19990);
    }

    /** Sockets of firms 0 and 1, two cars of 3000 watts, the first with 10000, cards of firms 0 and 1. */
    private static ChargeYard yard() {
        ChargeYard x = new ChargeYard();
        for (int i = 0; i < 2; i++) {
            x.socket(i, 5000);
            x.car(600000, i == 0 ? 10000 : 0, 3000);
            x.card(i, 0);
        }
        return x;
    }
}
