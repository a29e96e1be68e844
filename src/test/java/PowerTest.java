/** Promises 16 to 18: power, powerAnew and overloads. */
public final class PowerTest {
    private static final Check CHECK = new Check("PowerTest");
    private static boolean isAnewFirst = false;

    public static void main(String[] args) {
        wrongArguments();
        whatACarWants();
        eightTenths();
        cold();
        socketsBound();
        ranks();
        lesserBounds();
        evenParts();
        eightBounds();
        sun();
        nothingToGive();
        linkLost();
        linkLostWithoutAMinute();
        begunWhileDown();
        downTwice();
        overloads();
        CHECK.end();
    }

    /** Now the one is asked first, now the other: neither may live on what the other found. */
    private static void powers(String when, ChargeYard x, int... watts) {
        isAnewFirst = !isAnewFirst;
        for (int half = 0; half < 2; half++) {
            boolean isAnew = (half == 0) == isAnewFirst;
            for (int i = 0; i < watts.length; i++) {
                String call = when + (isAnew ? ", powerAnew(" : ", power(") + i + ")";
                CHECK.due(call, isAnew ? x.powerAnew(i) : x.power(i), watts[i]);
            }
        }
    }

    private static void wrongArguments() {
        ChargeYard x = yard(3000, 1);
        CHECK.noSuch("power(1)", () -> x.power(1));
        CHECK.noSuch("power(-1)", () -> x.power(-1));
        CHECK.noSuch("powerAnew(1)", () -> x.powerAnew(1));
        CHECK.noSuch("powerAnew(-1)", () -> x.powerAnew(-1));
        powers("at first", x, 3000);
        x.unplug(0);
        powers("unplugged", x, 0);
    }

    private static void whatACarWants() {
        ChargeYard x = new ChargeYard();
        x.socket(0, 50000);
        x.card(0, 0);
        x.car(100000, 0, 3001);
        x.car(100000, 99999, 3001);
        x.car(100000, 100000, 3001);
        x.plug(0, 0, 0);
        CHECK.due("its most power", x.power(0), 3001);
        x.unplug(0);
        x.plug(0, 1, 0);
        CHECK.due("what it lacks", x.power(1), 1);
        x.pass(1);
        CHECK.due("full", x.charge(1), 100000);
        CHECK.due("nothing more", x.power(1), 0);
        x.unplug(1);
        x.plug(0, 2, 0);
        powers("full from the first", x, 0, 0, 0);
    }

    private static void eightTenths() {
        ChargeYard x = new ChargeYard();
        x.socket(0, 50000);
        x.card(0, 0);
        x.car(100001, 80000, 3001);
        x.car(100001, 80001, 3001);
        x.car(100000, 80000, 3001);
        x.car(6000000, 4799999, 40000);
        x.car(6000000, 4800000, 40000);
        x.set(0, 100000);
        int[] due = {3001, 1500, 1500, 40000, 20000};
        for (int i = 0; i < due.length; i++) {
            x.plug(0, i, 0);
            CHECK.due("at eight tenths " + i, x.power(i), due[i]);
            x.unplug(i);
        }
    }

    private static void cold() {
        ChargeYard x = yard(3333, 1);
        x.set(2, 0);
        powers("0 degrees", x, 3333);
        x.set(2, -1);
        powers("-1 degrees", x, 3299);
        x.set(2, -50);
        powers("-50 degrees", x, 1666);
        x.set(2, 50);
        powers("50 degrees", x, 3333);
        ChargeYard y = new ChargeYard();
        y.socket(0, 50000);
        y.card(0, 0);
        y.car(10000, 8000, 3333);
        y.car(10000, 9990, 3333);
        y.set(2, -7);
        y.plug(0, 0, 0);
        // half of 3333 is 1666, of which 93 hundredths are 1549
        powers("half, then the cold", y, 1549);
        y.unplug(0);
        y.plug(0, 1, 0);
        powers("what it lacks is not colder", y, 0, 10);
    }

    private static void socketsBound() {
        ChargeYard x = new ChargeYard();
        x.socket(0, 1500);
        x.card(0, 0);
        x.car(600000, 0, 3000);
        x.plug(0, 0, 0);
        powers("the most of the socket", x, 1500);
        x.fault(0, true);
        powers("faulty", x, 0);
        x.fault(0, false);
        powers("no more faulty", x, 1500);
    }

    private static void ranks() {
        ChargeYard x = new ChargeYard();
        int[] ranks = {0, 1, 3, 1, 2};
        for (int i = 0; i < ranks.length; i++) {
            x.socket(0, 3000);
            x.car(600000, 0, 3000);
            x.card(0, ranks[i]);
            x.plug(i, i, i);
        }
        x.set(0, 1399);
        powers("for none", x, 0, 0, 0, 0, 0);
        x.set(0, 2799);
        powers("for one", x, 0, 0, 2799, 0, 0);
        x.set(0, 4199);
        powers("for two", x, 0, 0, 2100, 0, 2099);
        x.set(0, 4200);
        powers("for three", x, 0, 1400, 1400, 0, 1400);
        x.set(0, 5601);
        powers("for four", x, 0, 1401, 1400, 1400, 1400);
        x.set(0, 7000);
        powers("for all", x, 1400, 1400, 1400, 1400, 1400);
    }

    private static void lesserBounds() {
        ChargeYard x = new ChargeYard();
        int[] powers = {1399, 1400, 500, 3000, 300};
        int[] ranks = {3, 0, 2, 0, 2};
        for (int i = 0; i < powers.length; i++) {
            x.socket(0, 3000);
            x.car(600000, 0, powers[i]);
            x.card(0, ranks[i]);
            x.plug(i, i, i);
        }
        x.set(0, 2799);
        powers("the greater first", x, 1399, 1400, 0, 0, 0);
        x.set(0, 2800);
        powers("both", x, 0, 1400, 0, 1400, 0);
        x.set(0, 3199);
        powers("a lesser one that finds enough", x, 0, 1400, 0, 1499, 300);
        x.set(0, 3300);
        powers("the first that finds enough", x, 0, 1400, 500, 1400, 0);
        x.set(0, 4199);
        powers("the greatest of the lesser ones", x, 1399, 1400, 0, 1400, 0);
        x.set(0, 4999);
        powers("all have what they need", x, 1399, 1400, 500, 1400, 300);
        x.set(0, 5050);
        powers("more goes to the one with more", x, 1399, 1400, 500, 1451, 300);
    }

    private static void evenParts() {
        ChargeYard x = new ChargeYard();
        int[] most = {1500, 3000, 1400, 2000, 9000};
        for (int i = 0; i < most.length; i++) {
            x.socket(0, 50000);
            x.car(600000, 0, most[i]);
            x.card(0, i % 4);
            x.plug(i, i, i);
        }
        x.set(0, 7000);
        powers("nothing left", x, 1400, 1400, 1400, 1400, 1400);
        x.set(0, 7003);
        powers("three watts", x, 1401, 1401, 1400, 1401, 1400);
        x.set(0, 7400);
        powers("to the first bound", x, 1500, 1500, 1400, 1500, 1500);
        x.set(0, 7401);
        powers("one beyond the first bound", x, 1500, 1501, 1400, 1500, 1500);
        x.set(0, 8902);
        powers("to the second bound", x, 1500, 2001, 1400, 2000, 2001);
        x.set(0, 10903);
        powers("to the third bound", x, 1500, 3000, 1400, 2000, 3003);
        x.set(0, 16900);
        powers("all that they want", x, 1500, 3000, 1400, 2000, 9000);
        x.set(0, 200000);
        powers("far more than they want", x, 1500, 3000, 1400, 2000, 9000);
    }

    private static void eightBounds() {
        ChargeYard x = new ChargeYard();
        for (int i = 0; i < 8; i++) {
            x.socket(0, 50000);
            x.car(600000, 0, 2200 - 100 * i);
            x.card(0, 0);
            x.plug(i, i, i);
        }
        x.set(0, 14800);
        powers("all bounds", x, 2200, 2100, 2000, 1900, 1800, 1700, 1600, 1500);
        x.set(0, 14795);
        powers("less than all", x, 2195, 2100, 2000, 1900, 1800, 1700, 1600, 1500);
        x.set(0, 13803);
        powers("three more than even", x, 1801, 1801, 1801, 1800, 1800, 1700, 1600, 1500);
        x.set(0, 13809);
        powers("nine more than even", x, 1803, 1802, 1802, 1802, 1800, 1700, 1600, 1500);
    }

    private static void sun() {
        ChargeYard x = yard(5000, 2);
        x.set(0, 2000);
        powers("without sun", x, 2000, 0);
        x.set(1, 2001);
        powers("with sun", x, 2001, 2000);
        x.set(0, 0);
        powers("sun alone", x, 2001, 0);
    }

    private static void nothingToGive() {
        ChargeYard x = yard(5000, 2);
        x.set(0, 0);
        powers("nothing", x, 0, 0);
        x.pass(3);
        CHECK.due("no charge", x.charge(0), 0);
        CHECK.due("no overload", x.overloads(), 0);
    }

    private static void linkLost() {
        ChargeYard x = yard(5000, 2);
        x.set(0, 8000);
        x.pass(2);
        powers("ahead", x, 4000, 4000);
        x.link(0, false);
        x.set(0, 10000);
        powers("what it heard last", x, 4000, 5000);
        x.set(0, 3000);
        powers("taken first, though there is less", x, 4000, 0);
        x.set(0, 5400);
        powers("taken first", x, 4000, 1400);
        x.pass(4);
        powers("in the fifth minute", x, 4000, 1400);
        x.pass(1);
        powers("in the sixth minute", x, 1400, 4000);
        x.link(0, true);
        powers("up again", x, 2700, 2700);
        x.pass(1);
        x.set(2, -50);
        x.link(1, false);
        powers("at most what it wants", x, 2500, 2500);
        x.fault(1, true);
        powers("nothing if it is faulty", x, 2500, 0);
    }

    private static void linkLostWithoutAMinute() {
        ChargeYard x = yard(5000, 2);
        x.link(0, false);
        powers("without a minute", x, 0, 5000);
        x.pass(5);
        powers("five minutes later", x, 1400, 5000);
        CHECK.due("no charge in these", x.charge(0), 0);
    }

    private static void begunWhileDown() {
        ChargeYard x = yard(5000, 1);
        x.socket(0, 5000);
        x.car(600000, 0, 5000);
        x.car(600000, 0, 900);
        for (int i = 0; i < 12; i++) {
            x.pass(120);
        }
        x.link(1, false);
        x.plug(1, 1, 0);
        CHECK.due("at most 1400 at once", x.power(1), 1400);
        x.set(0, 0);
        CHECK.due("and whether there is so much or not", x.power(1), 1400);
        x.pass(6);
        CHECK.due("and later", x.power(1), 1400);
        x.unplug(1);
        x.plug(1, 2, 0);
        CHECK.due("at most what it wants", x.power(2), 900);
    }

    /** The second time counts anew, for a session that was begun while it was down too. */
    private static void downTwice() {
        ChargeYard x = yard(5000, 1);
        x.set(0, 0);
        for (int i = 0; i < 12; i++) {
            x.pass(120);
        }
        x.unplug(0);
        x.link(0, false);
        x.plug(0, 0, 0);
        x.pass(7);
        x.link(0, true);
        x.set(0, 1000);
        powers("up", x, 0, 0);
        x.set(0, 3000);
        x.pass(1);
        x.link(0, false);
        powers("down again", x, 0, 3000);
        x.link(0, true);
        x.fault(0, true);
        x.pass(1);
        x.fault(0, false);
        x.link(0, false);
        powers("down behind a fault", x, 0, 0);
        x.pass(4);
        powers("down behind a fault, fifth minute", x, 0, 0);
        x.pass(1);
        powers("down behind a fault, sixth minute", x, 0, 1400);
    }

    private static void overloads() {
        ChargeYard x = yard(5000, 2);
        CHECK.due("at first", x.overloads(), 0);
        x.pass(2);
        CHECK.due("all that it can give is none", x.overloads(), 0);
        x.link(0, false);
        x.set(0, 4000);
        x.set(1, 1000);
        x.pass(1);
        CHECK.due("just as much is none", x.overloads(), 0);
        x.set(1, 999);
        CHECK.due("none ahead of the minute", x.overloads(), 0);
        x.pass(2);
        CHECK.due("two minutes", x.overloads(), 2);
        x.pass(10);
        CHECK.due("three of these, then 1400", x.overloads(), 4);
        x.set(0, 0);
        x.set(1, 0);
        x.pass(3);
        CHECK.due("three more", x.overloads(), 7);
    }

    /** So many sessions of cars of such a power, each at a socket of firm 0, with cards of rank 0. */
    private static ChargeYard yard(int power, int count) {
        ChargeYard x = new ChargeYard();
        for (int i = 0; i < count; i++) {
            x.socket(0, 50000);
            x.car(600000, 0, power);
            x.card(0, 0);
            x.plug(i, i, i);
        }
        return x;
    }
}
