import java.util.List;

/** The document's Terms, "A minute", and promises 8 and 12 to 15: a test for each sentence that names an edge. */
public final class EdgesOfMinutesTest {
    private static final Check CHECK = new Check("EdgesOfMinutesTest");

    public static void main(String[] args) {
        chargesAreMoreByPowers();
        upToTheCapacity();
        chargeOfManySessions();
        eachSocketWithASession();
        noMinuteAtAll();
        heardOrWaiting();
        allThatWaitsIsHeard();
        allThatWaitsOfManySessions();
        theMostValues();
        unheardOfTheSessionAlone();
        latestMinuteOfIt();
        statesOfASession();
        theMinuteIs1More();
        manyMinutesAsOneByOne();
        theWholeTime();
        CHECK.end();
    }

    /** "powers are found, the charges are more by them": of each minute by what the charge is as it begins. */
    private static void chargesAreMoreByPowers() {
        ChargeYard x = History.of(1, 0, 1).then(y -> y.car(10000, 6999, 1001)).then(y -> y.plug(0, 0, 0)).yard();
        // eight tenths are 8000: the second minute begins there with 8000, the half of 1001 is 500
        int[] charges = {8000, 8500, 9000, 9500, 10000, 10000};
        for (int i = 0; i < charges.length; i++) {
            x.pass(1);
            CHECK.due("charge behind " + (i + 1), x.charge(0), charges[i]);
            CHECK.due("energy behind " + (i + 1), x.of(0, 1), charges[i] - 6999);
        }
        ChargeYard y = History.of(1, 0, 1).then(z -> z.car(10000, 6998, 1001)).then(z -> z.plug(0, 0, 0)).yard();
        y.pass(2);
        CHECK.due("the second minute begins with 7999", y.charge(0), 9000);
    }

    /** Promise 15: a charge goes up to the capacity, and stays. */
    private static void upToTheCapacity() {
        ChargeYard x = History.of(1, 0, 1).then(y -> y.car(6000000, 5999999, 50000)).yard();
        x.plug(0, 0, 0);
        x.pass(1);
        CHECK.due("the most charge of all", x.charge(0), 6000000);
        CHECK.due("its one watt", x.of(0, 0), 1);
        x.pass(120);
        CHECK.due("the most charge still", x.charge(0), 6000000);
        CHECK.due("its energy", x.of(0, 1), 1);
        ChargeYard y = History.of(1, 0, 1).then(z -> z.car(10, 8, 1)).then(z -> z.plug(0, 0, 0)).pass(120).yard();
        CHECK.due("the half of one watt is none", y.charge(0), 8);
        CHECK.due("never full, never idle", y.billAnew(0), 0);
    }

    /** "and the energy of each session": of that one, while the charge is of all. */
    private static void chargeOfManySessions() {
        ChargeYard x = History.of(2, 1, 1).then(y -> y.plug(0, 0, 0)).pass(2).yard();
        x.unplug(0);
        x.pass(5);
        CHECK.due("no charge without a session", x.charge(0), 6000);
        x.plug(1, 0, 0);
        x.pass(3);
        CHECK.due("charge of both", x.charge(0), 15000);
        CHECK.due("energy of the first", x.of(0, 1), 6000);
        CHECK.due("energy of the second", x.of(1, 1), 9000);
    }

    /** "then each socket with a session makes a signed value of it": without power, faulty, full or not. */
    private static void eachSocketWithASession() {
        History made = History.of(4, 3, 1).then(x -> x.car(1, 1, 1)).pass(2);
        for (int i = 0; i < 4; i++) {
            int number = i;
            made.then(x -> x.plug(number, number, 0));
        }
        ChargeYard x = made.then(y -> y.set(0, 4000)).then(y -> y.fault(2, true)).pass(1).yard();
        int[] energies = {2000, 2000, 0, 0};
        for (int i = 0; i < 4; i++) {
            CHECK.due("energy of " + i, x.of(i, 1), energies[i]);
            CHECK.due("values of " + i, x.of(i, 2), 1);
            CHECK.due("heard of " + i, x.of(i, 3), 1);
        }
    }

    /** Plugged and unplugged in one minute: no value, nothing that waits, and billed even if the link is down. */
    private static void noMinuteAtAll() {
        for (boolean isUp : new boolean[] {false, true}) {
            ChargeYard x = History.of(1, 1, 1).pass(1440).then(y -> y.link(0, isUp)).yard();
            x.plug(0, 0, 0);
            CHECK.due("unheard", x.unplug(0), 0);
            CHECK.due("billed", x.of(0, 4), 3);
            x.pass(1);
            CHECK.due("values", x.of(0, 2), 0);
            CHECK.due("power", x.of(0, 0), 0);
        }
    }

    /** "Values of a socket whose link is up are heard, others wait there." */
    private static void heardOrWaiting() {
        ChargeYard x = History.of(1, 1, 1).then(y -> y.plug(0, 0, 0)).pass(1).yard();
        CHECK.due("heard, link up", x.of(0, 3), 1);
        x.link(0, false);
        CHECK.due("heard still, link down", x.of(0, 3), 1);
        x.pass(1);
        CHECK.due("made, link down", x.of(0, 2), 2);
        CHECK.due("not heard, link down", x.of(0, 3), 1);
        CHECK.due("heard as it comes up", x.link(0, true), 1);
        CHECK.due("heard, link up again", x.of(0, 3), 2);
        x.pass(1);
        CHECK.due("heard, a minute later", x.of(0, 3), 3);
    }

    /** Promise 8: "as it comes up, all that waits is heard", "Returns how many values are heard by that." */
    private static void allThatWaitsIsHeard() {
        ChargeYard x = History.of(2, 2, 1).yard();
        CHECK.due("up while it is up, nothing plugged", x.link(0, true), 0);
        CHECK.due("down, nothing plugged", x.link(0, false), 0);
        x.pass(10);
        CHECK.due("up, nothing plugged", x.link(0, true), 0);
        x.plug(0, 0, 0);
        x.plug(1, 1, 0);
        x.pass(3);
        CHECK.due("up while it is up", x.link(0, true), 0);
        CHECK.due("down", x.link(0, false), 0);
        CHECK.due("up at once", x.link(0, true), 0);
        x.link(0, false);
        x.link(1, false);
        x.pass(1);
        CHECK.due("down while it is down", x.link(0, false), 0);
        CHECK.due("none of them heard by that", x.of(0, 3), 3);
        x.fault(0, true);
        CHECK.due("up, though it is faulty", x.link(0, true), 1);
        CHECK.due("up once more", x.link(0, true), 0);
        CHECK.due("the other socket's wait", x.of(1, 3), 3);
    }

    /** "all that waits": of sessions that are unplugged, and of the one that goes on. */
    private static void allThatWaitsOfManySessions() {
        ChargeYard x = History.of(1, 3, 1).pass(1440).then(y -> y.link(0, false)).yard();
        for (int i = 0; i < 3; i++) {
            x.plug(0, i, 0);
            x.pass(i + 1);
            if (i < 2) {
                CHECK.due("unheard of " + i, x.unplug(i), i + 1);
                CHECK.due("unplugged, not billed " + i, x.of(i, 4), 2);
            }
        }
        CHECK.due("of all three", x.link(0, true), 6);
        CHECK.due("billed 0", x.of(0, 4), 3);
        CHECK.due("billed 1", x.of(1, 4), 3);
        CHECK.due("it goes on", x.of(2, 4), 1);
        CHECK.due("its values are heard", x.of(2, 3), 3);
    }

    /** The most values that there may be of one session: 20000, all of them waiting. */
    private static void theMostValues() {
        ChargeYard x = History.of(1, 1, 1).then(y -> y.plug(0, 0, 0)).then(y -> y.link(0, false)).pass(20000).yard();
        CHECK.due("made", x.of(0, 2), 20000);
        CHECK.due("heard", x.of(0, 3), 0);
        CHECK.due("heard as it comes up", x.link(0, true), 20000);
        CHECK.due("all of them heard", x.of(0, 3), 20000);
        CHECK.due("unheard", x.unplug(0), 0);
    }

    /** Promise 12: "how many values of it are not heard yet": not of one ahead of it. */
    private static void unheardOfTheSessionAlone() {
        ChargeYard x = History.of(1, 2, 1).pass(1440).then(y -> y.plug(0, 0, 0)).pass(4).yard();
        x.link(0, false);
        x.pass(5);
        CHECK.due("five of the first", x.unplug(0), 5);
        x.plug(0, 1, 0);
        CHECK.due("none of the second", x.unplug(1), 0);
        CHECK.due("the second is billed", x.of(1, 4), 3);
        CHECK.due("the first is not", x.of(0, 4), 2);
        x.plug(0, 1, 0);
        x.pass(1);
        CHECK.due("one of the third", x.unplug(2), 1);
    }

    /** Promise 14: "its power in the latest minute of it, 0 without one" */
    private static void latestMinuteOfIt() {
        ChargeYard x = History.of(1, 1, 1).pass(3).then(y -> y.plug(0, 0, 0)).yard();
        CHECK.due("without one", x.of(0, 0), 0);
        x.pass(1);
        x.set(0, 1500);
        CHECK.due("not of the minute that begins", x.of(0, 0), 3000);
        x.pass(1);
        CHECK.due("of the latest", x.of(0, 0), 1500);
        x.unplug(0);
        x.plug(0, 0, 0);
        x.set(0, 10000);
        x.pass(1);
        CHECK.due("unplugged, of its latest", x.of(0, 0), 1500);
        CHECK.due("of the next session", x.of(1, 0), 3000);
    }

    /** Promise 14: "1 if it goes on, 2 if it is unplugged, 3 if it is billed" */
    private static void statesOfASession() {
        ChargeYard x = History.of(1, 1, 1).then(y -> y.plug(0, 0, 0)).yard();
        CHECK.due("at first", x.of(0, 4), 1);
        x.link(0, false);
        x.pass(1);
        CHECK.due("while a value waits", x.of(0, 4), 1);
        x.unplug(0);
        CHECK.due("unplugged", x.of(0, 4), 2);
        x.pass(1);
        CHECK.due("unplugged still", x.of(0, 4), 2);
        x.link(0, true);
        CHECK.due("billed", x.of(0, 4), 3);
        x.dispute(0, 100);
        CHECK.due("disputed", x.of(0, 4), 3);
    }

    /** "Then the minute is 1 more", promise 13: "Returns the minute then." */
    private static void theMinuteIs1More() {
        ChargeYard x = new ChargeYard();
        CHECK.due("one", x.pass(1), 1);
        CHECK.due("one more", x.pass(1), 2);
        CHECK.due("two more", x.pass(2), 4);
        CHECK.due("the most", x.pass(120), 124);
    }

    /** 120 minutes in one call, or in 120: the end of a day, bookings, links and idling in their midst. */
    private static void manyMinutesAsOneByOne() {
        History ahead = History.of(3, 1, 4).then(x -> x.car(40000, 0, 2000)).then(x -> x.car(90000, 70000, 1500));
        ahead.then(x -> x.tariff(0, 5, 100, 70, 3)).then(x -> x.good(3, false)).pass(1300);
        for (int i = 0; i < 2; i++) {
            int number = i;
            ahead.then(x -> x.plug(number, number, number)).then(x -> x.book(number, 2, 1400, 300));
        }
        ahead.pass(30).then(x -> x.link(0, false)).then(x -> x.book(2, 2, 1435, 30)).then(x -> x.set(0, 2900));
        ChargeYard one = ahead.yard();
        ChargeYard two = ahead.yard();
        one.pass(120);
        for (int i = 0; i < 120; i++) {
            two.pass(1);
        }
        List<String> got = Probe.answersOf(one);
        List<String> want = Probe.answersOf(two);
        for (int i = 0; i < want.size(); i++) {
            CHECK.due("120 minutes, call " + i, got.get(i), want.get(i));
        }
    }

    /** From the minute 0 to the minute 20000, with the most sockets and sessions on them. */
    private static void theWholeTime() {
        History made = History.of(8, 8, 1).then(x -> x.tariff(0, 0, 0, 0, 1)).then(x -> x.set(0, 24000));
        for (int i = 0; i < 8; i++) {
            int number = i;
            made.then(x -> x.plug(number, number, 0));
        }
        ChargeYard x = made.pass(20000).yard();
        for (int i = 0; i < 8; i++) {
            // 160 minutes of 3000 watts to eight tenths, 80 of 1500; of the other minutes ten cost nothing
            CHECK.due("charge of " + i, x.charge(i), 600000);
            CHECK.due("values of " + i, x.of(i, 2), 20000);
            CHECK.due("bill of " + i, x.bill(i), 20000 - 240 - 10);
            CHECK.due("bill anew of " + i, x.billAnew(i), 20000 - 240 - 10);
        }
    }
}
