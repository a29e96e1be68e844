/** The document's Terms, "Bills", and promises 9 and 18 to 23: a test for each sentence that names an edge. */
public final class EdgesOfBillsTest {
    private static final Check CHECK = new Check("EdgesOfBillsTest");

    public static void main(String[] args) {
        all0AtFirst();
        dayIs360To1319();
        moreThanTheValueAhead();
        tariffAsItWas();
        tariffOfTheSocketsFirm();
        first10IdleMinutes();
        idlesOnlyWhenFull();
        fillingDoesNotIdle();
        idlesWithoutRegardToWhy();
        idleMinutesOfEachSession();
        divided60000RoundedDown();
        eachEnergyByItself();
        together();
        heardSoFar();
        billedWhenUnpluggedAndHeard();
        cardOwesItsFirm();
        hundredths95RoundedDown();
        ownFirmOwesNothing();
        accountOf0();
        disputedOnce();
        hundredthsRoundedDown();
        disputeOf95Hundredths();
        owedOfManySessions();
        theGreatestBill();
        CHECK.end();
    }

    private static void bills(String when, ChargeYard x, int session, int cents) {
        CHECK.due(when + ", bill", x.bill(session), cents);
        CHECK.due(when + ", billAnew", x.billAnew(session), cents);
    }

    /** Of the firms 0, 1 and 2 a socket, an empty car of 3000 watts and a card each. */
    private static History three() {
        History made = new History();
        for (int i = 0; i < 3; i++) {
            int firm = i;
            made.then(x -> x.socket(firm, 50000)).then(x -> x.car(600000, 0, 3000)).then(x -> x.card(firm, 0));
        }
        return made;
    }

    /** A full car at the socket 0. */
    private static History full() {
        return three().then(x -> x.tariff(0, 0, 0, 0, 1)).then(x -> x.car(9, 9, 9)).then(x -> x.plug(0, 3, 0));
    }

    /** "all 0 at first" */
    private static void all0AtFirst() {
        for (int socket = 0; socket < 3; socket++) {
            int one = socket;
            ChargeYard x = three().pass(300).then(y -> y.plug(one, 0, 0)).pass(400).yard();
            bills("start, night, day and idling of the firm " + one, x, 0, 0);
            x.unplug(0);
            CHECK.due("owed to the firm " + one, x.account(one), 0);
        }
    }

    /** "(minutes 360 to 1319 of a day)": one minute of 3000 watts in each, at 1000 cents for a kilowatt hour. */
    private static void dayIs360To1319() {
        int[] night = {0, 359, 1320, 1439, 1440, 1440 + 359, 1440 + 1320, 2880, 13 * 1440 + 359};
        int[] day = {360, 361, 1318, 1319, 1440 + 360, 1440 + 1319, 2880 + 360, 13 * 1440 + 360};
        for (int minute : night) {
            History made = three().pass(minute);
            bills("night " + minute, oneMinute(made, 0, 1000), 0, 50);
            bills("not day " + minute, oneMinute(made, 1000, 0), 0, 0);
        }
        for (int minute : day) {
            History made = three().pass(minute);
            bills("day " + minute, oneMinute(made, 1000, 0), 0, 50);
            bills("not night " + minute, oneMinute(made, 0, 1000), 0, 0);
        }
    }

    private static ChargeYard oneMinute(History ahead, int day, int night) {
        ChargeYard x = ahead.and(y -> y.tariff(0, 0, day, night, 0)).yard();
        x.plug(0, 0, 0);
        x.pass(1);
        x.fault(0, true);
        History.passFor(x, 5);
        return x;
    }

    /** "what values of minutes of the day have more than the value ahead of each, or than 0. .. that of the night" */
    private static void moreThanTheValueAhead() {
        History made = three().then(x -> x.tariff(0, 0, 1000, 1, 0)).pass(339).then(x -> x.plug(0, 0, 0));
        ChargeYard x = made.yard();
        x.pass(20);
        bills("20 minutes of the night, the first of them too", x, 0, 1);
        x.pass(1);
        bills("up to 359", x, 0, 1);
        x.pass(1);
        bills("360 by itself, not by all ahead of it", x, 0, 51);
        ChargeYard y = three().then(z -> z.tariff(0, 0, 1, 1000, 0)).pass(1300).then(z -> z.plug(0, 0, 0)).yard();
        y.pass(20);
        bills("20 minutes of the day, the first of them too", y, 0, 1);
        y.pass(1);
        bills("1320 by itself", y, 0, 51);
    }

    /** "by the tariff as it was when it began", promise 9: "for sessions that begin from now on" */
    private static void tariffAsItWas() {
        ChargeYard x = three().then(y -> y.tariff(0, 10, 0, 0, 0)).then(y -> y.tariff(0, 20, 0, 0, 0)).yard();
        x.plug(0, 0, 0);
        x.tariff(0, 1000, 1000, 1000, 1000);
        x.pass(20);
        bills("the one ahead of it", x, 0, 20);
        x.unplug(0);
        CHECK.due("owed by the one ahead of it", x.owes(0), 20);
        x.plug(0, 0, 0);
        x.tariff(0, 0, 0, 0, 0);
        bills("the greatest start", x, 1, 1000);
        bills("the one ahead still", x, 0, 20);
    }

    /** "A firm has a tariff for its sockets": the card's firm is of no account in this. */
    private static void tariffOfTheSocketsFirm() {
        History made = three().then(x -> x.tariff(0, 1, 0, 0, 0)).then(x -> x.tariff(1, 2, 0, 0, 0));
        made.then(x -> x.tariff(2, 4, 0, 0, 0));
        for (int socket = 0; socket < 3; socket++) {
            for (int card = 0; card < 3; card++) {
                ChargeYard x = made.yard();
                x.plug(socket, 0, card);
                bills("socket " + socket + ", card " + card, x, 0, 1 << socket);
            }
        }
    }

    /** "the first 10 such minutes of a session cost nothing" */
    private static void first10IdleMinutes() {
        for (int minutes : new int[] {1, 9, 10, 11, 12, 120}) {
            bills("idle " + minutes, full().pass(minutes).yard(), 0, Math.max(0, minutes - 10));
        }
        ChargeYard x = three().then(y -> y.tariff(0, 0, 0, 0, 1000)).then(y -> y.car(1, 1, 1)).yard();
        x.plug(0, 3, 0);
        x.pass(11);
        bills("at the most for a minute", x, 0, 1000);
    }

    /** "and the car was full, its charge its capacity": one watt minute less is not. */
    private static void idlesOnlyWhenFull() {
        for (int charge : new int[] {0, 8, 9, 10}) {
            History made = three().then(x -> x.tariff(0, 0, 0, 0, 1)).then(x -> x.car(10, charge, 1));
            ChargeYard x = made.then(y -> y.set(0, 0)).then(y -> y.plug(0, 3, 0)).pass(21).yard();
            bills("without power, charge " + charge, x, 0, charge == 10 ? 11 : 0);
        }
    }

    /** "when it began": the minute that fills the car does not idle, the next does. */
    private static void fillingDoesNotIdle() {
        History made = three().then(x -> x.tariff(0, 0, 0, 0, 1)).then(x -> x.car(100, 50, 50));
        ChargeYard x = made.then(y -> y.plug(0, 3, 0)).pass(1).yard();
        CHECK.due("full behind the first", x.charge(3), 100);
        x.pass(10);
        bills("ten minutes behind that", x, 0, 0);
        x.pass(1);
        bills("eleven minutes behind that", x, 0, 1);
    }

    /** A full car idles whether its socket is faulty or not, its link up or down, its minute of the day or not. */
    private static void idlesWithoutRegardToWhy() {
        bills("faulty", full().then(x -> x.fault(0, true)).pass(15).yard(), 0, 5);
        bills("of the night and of the day", full().pass(370).yard(), 0, 360);
        ChargeYard x = full().then(y -> y.link(0, false)).pass(15).yard();
        CHECK.due("link down, heard", x.bill(0), 0);
        CHECK.due("link down, all", x.billAnew(0), 5);
        x.link(0, true);
        bills("link up again", x, 0, 5);
        x.link(0, false);
        x.pass(2);
        x.link(0, true);
        bills("ten cost nothing once", x, 0, 7);
    }

    /** "of a session": each has ten of its own. */
    private static void idleMinutesOfEachSession() {
        ChargeYard x = full().pass(11).yard();
        x.unplug(0);
        x.plug(0, 3, 0);
        x.pass(10);
        bills("the first", x, 0, 1);
        bills("the second", x, 1, 0);
        x.pass(1);
        bills("the second, a minute later", x, 1, 1);
    }

    /** "each energy times its price, divided by 60000, rounded down" */
    private static void divided60000RoundedDown() {
        int[] energies = {0, 59999, 60000, 60001, 119999, 120000};
        int[] cents = {0, 0, 1, 1, 1, 2};
        for (int i = 0; i < energies.length; i++) {
            int lack = energies[i];
            History made = three().then(x -> x.car(6000000, 6000000 - lack, 5000));
            // 48 minutes of 2500 watts are 120000
            History night = made.and(x -> x.tariff(0, 0, 0, 1, 0)).and(x -> x.plug(0, 3, 0)).pass(50);
            bills("energy of the night " + lack, night.yard(), 0, cents[i]);
            History day = made.and(x -> x.tariff(0, 0, 1, 0, 0)).pass(360).then(x -> x.plug(0, 3, 0)).pass(50);
            bills("energy of the day " + lack, day.yard(), 0, cents[i]);
        }
        // 1016 times 59 are 59944, 1017 times 59 are 60003
        for (int lack : new int[] {1016, 1017}) {
            History made = three().then(x -> x.tariff(0, 0, 0, 59, 0)).then(x -> x.car(lack, 0, lack));
            bills("at 59, " + lack, made.then(x -> x.plug(0, 3, 0)).pass(1).yard(), 0, lack - 1016);
        }
    }

    /** "each energy": what is left over of the two is not put together. */
    private static void eachEnergyByItself() {
        History made = three().then(x -> x.tariff(0, 0, 1, 1, 0)).then(x -> x.car(6000000, 0, 29999)).pass(358);
        ChargeYard x = made.then(y -> y.set(0, 50000)).then(y -> y.plug(0, 3, 0)).pass(4).yard();
        CHECK.due("energy of 2 minutes of each", x.of(0, 1), 4 * 29999);
        bills("59998 of each", x, 0, 0);
        ChargeYard y = three().then(z -> z.tariff(0, 0, 2, 2, 0)).pass(359).then(z -> z.plug(0, 0, 0)).pass(20).yard();
        // 3000 of the night and 57000 of the day, at 2 cents
        bills("1.9 cents and 0.1", y, 0, 1);
    }

    /** "the start, each energy .., and the minutes that idle and cost, together" */
    private static void together() {
        History made = three().then(x -> x.tariff(1, 7, 60, 120, 5)).then(x -> x.car(6000, 0, 1000));
        made.pass(357).then(x -> x.plug(1, 3, 0));
        ChargeYard x = made.pass(8).yard();
        // 3 minutes of 1000 in the night; 2 of 1000 (to 5000, eight tenths are 4800) and 2 of 500 in the day; 1 idle
        bills("start, night and day", x, 0, 7 + 6 + 3);
        x.pass(9);
        bills("ten minutes idle", x, 0, 16);
        x.pass(4);
        bills("fourteen minutes idle", x, 0, 16 + 20);
    }

    /** Promise 19: "by the values that are heard so far"; promise 20: "by all values, kept at the socket or heard" */
    private static void heardSoFar() {
        History made = three().then(x -> x.tariff(0, 3, 20, 20, 0)).then(x -> x.link(0, false));
        ChargeYard x = made.pass(1440).then(y -> y.plug(0, 0, 0)).yard();
        bills("without values", x, 0, 3);
        x.pass(1);
        CHECK.due("none heard", x.bill(0), 3);
        CHECK.due("one kept", x.billAnew(0), 3);
        x.pass(4);
        CHECK.due("none of five heard", x.bill(0), 3);
        // five minutes of 1400 are 7000, times 20 are 140000
        CHECK.due("five kept", x.billAnew(0), 5);
        x.unplug(0);
        CHECK.due("unplugged, none heard", x.bill(0), 3);
        CHECK.due("unplugged, five kept", x.billAnew(0), 5);
        x.link(0, true);
        bills("all heard", x, 0, 5);
    }

    /** "A session is billed when it is unplugged and all its values are heard": whichever comes last. */
    private static void billedWhenUnpluggedAndHeard() {
        History made = three().then(x -> x.tariff(0, 100, 0, 0, 0)).then(x -> x.plug(0, 0, 0)).pass(2);
        ChargeYard x = made.yard();
        CHECK.due("all heard, not unplugged", x.owes(0), 0);
        x.unplug(0);
        CHECK.due("all heard, then unplugged", x.owes(0), 100);
        ChargeYard y = made.and(z -> z.link(0, false)).pass(1).then(z -> z.unplug(0)).yard();
        CHECK.due("unplugged, one not heard", y.owes(0), 0);
        y.link(0, false);
        y.pass(1);
        CHECK.due("a minute later", y.owes(0), 0);
        y.link(0, true);
        CHECK.due("unplugged, then heard", y.owes(0), 100);
        y.link(0, false);
        y.link(0, true);
        CHECK.due("billed once", y.owes(0), 100);
        ChargeYard z = made.and(v -> v.link(0, false)).and(v -> v.unplug(0)).yard();
        CHECK.due("link down, but all heard", z.owes(0), 100);
        ChargeYard w = made.and(v -> v.link(0, false)).pass(1).then(v -> v.link(0, true)).yard();
        CHECK.due("heard late, not unplugged", w.owes(0), 0);
    }

    /** "the card owes the bill to its firm" */
    private static void cardOwesItsFirm() {
        ChargeYard x = three().then(y -> y.card(0, 0)).then(y -> y.tariff(0, 100, 0, 0, 0)).yard();
        x.plug(0, 0, 3);
        x.unplug(0);
        CHECK.due("the card", x.owes(3), 100);
        CHECK.due("another card of the firm", x.owes(0), 0);
        CHECK.due("its firm", x.account(0), 100);
        CHECK.due("another firm", x.account(1), 0);
    }

    /** "the card's firm owes that 95 hundredths of the bill, rounded down" */
    private static void hundredths95RoundedDown() {
        int[] bills = {0, 1, 2, 19, 20, 21, 99, 100, 101, 1000};
        int[] shares = {0, 0, 1, 18, 19, 19, 94, 95, 95, 950};
        for (int i = 0; i < bills.length; i++) {
            int start = bills[i];
            ChargeYard x = three().then(y -> y.tariff(2, start, 0, 0, 0)).then(y -> y.plug(2, 0, 1)).yard();
            x.unplug(0);
            CHECK.due("owes " + start, x.owes(1), start);
            CHECK.due("the socket's firm of " + start, x.account(2), shares[i]);
            CHECK.due("the card's firm of " + start, x.account(1), start - shares[i]);
            CHECK.due("the third firm", x.account(0), 0);
        }
    }

    /** "if the socket is another firm's": not if it is its own. */
    private static void ownFirmOwesNothing() {
        for (int firm = 0; firm < 3; firm++) {
            int one = firm;
            ChargeYard x = three().then(y -> y.tariff(one, 100, 0, 0, 0)).then(y -> y.plug(one, 0, one)).yard();
            x.unplug(0);
            CHECK.due("all of it", x.account(one), 100);
            CHECK.due("a hundredth taken off", x.dispute(0, 1), 1);
            CHECK.due("the rest of it", x.account(one), 99);
        }
    }

    /** Promise 23, "less what it owes firms": a firm that is owed just as much as it owes, or nothing by either. */
    private static void accountOf0() {
        int[] starts = {20, 21, 40};
        int[] hundredths = {99, 100, 99};
        // of 20, 21 and 40 the shares are 19, 19 and 38; of the 19, 21 and 39 that are taken off 18, 19 and 37
        for (int i = 0; i < starts.length; i++) {
            int start = starts[i];
            ChargeYard x = three().then(y -> y.tariff(1, start, 0, 0, 0)).then(y -> y.plug(1, 0, 0)).yard();
            x.unplug(0);
            x.dispute(0, hundredths[i]);
            CHECK.due("owes of " + start, x.owes(0), start == 21 ? 0 : 1);
            CHECK.due("the card's firm of " + start, x.account(0), 0);
            CHECK.due("the socket's firm of " + start, x.account(1), start == 21 ? 0 : 1);
        }
    }

    /** "It can be disputed once" */
    private static void disputedOnce() {
        ChargeYard x = three().then(y -> y.tariff(1, 1000, 0, 0, 0)).then(y -> y.plug(1, 0, 0)).yard();
        CHECK.notNow("while it goes on", () -> x.dispute(0, 1));
        x.unplug(0);
        x.plug(1, 0, 0);
        x.unplug(1);
        CHECK.due("the first", x.dispute(0, 1), 10);
        CHECK.notNow("the first again", () -> x.dispute(0, 1));
        CHECK.due("the second", x.dispute(1, 100), 1000);
        CHECK.notNow("the second again", () -> x.dispute(1, 100));
        CHECK.due("owes", x.owes(0), 990);
        CHECK.due("the bill of it stays", x.bill(1), 1000);
    }

    /** "so many hundredths of the bill, rounded down, are taken off what the card owes" */
    private static void hundredthsRoundedDown() {
        int[] starts = {0, 1, 1, 1, 99, 99, 99, 100, 101, 999};
        int[] hundredths = {100, 100, 99, 1, 1, 2, 50, 1, 99, 99};
        int[] offs = {0, 1, 0, 0, 0, 1, 49, 1, 99, 989};
        for (int i = 0; i < starts.length; i++) {
            int start = starts[i];
            ChargeYard x = three().then(y -> y.tariff(0, start, 0, 0, 0)).then(y -> y.plug(0, 0, 0)).yard();
            x.unplug(0);
            String call = hundredths[i] + " hundredths of " + start;
            CHECK.due(call, x.dispute(0, hundredths[i]), offs[i]);
            CHECK.due(call + ", owes", x.owes(0), start - offs[i]);
            CHECK.due(call + ", account", x.account(0), start - offs[i]);
        }
    }

    /** "95 hundredths of that, rounded down, off what its firm owes that": of what is taken off, not of the bill. */
    private static void disputeOf95Hundredths() {
        int[] hundredths = {1, 2, 19, 20, 21, 100};
        int[] shares = {0, 1, 18, 19, 19, 95};
        for (int i = 0; i < hundredths.length; i++) {
            ChargeYard x = three().then(y -> y.tariff(1, 100, 0, 0, 0)).then(y -> y.plug(1, 0, 2)).yard();
            x.unplug(0);
            CHECK.due("off " + hundredths[i], x.dispute(0, hundredths[i]), hundredths[i]);
            CHECK.due("the socket's firm, " + hundredths[i], x.account(1), 95 - shares[i]);
            CHECK.due("the card's firm, " + hundredths[i], x.account(2), 5 - hundredths[i] + shares[i]);
        }
    }

    /** Promises 22 and 23: what is owed of several sessions, each rounded by itself. */
    private static void owedOfManySessions() {
        ChargeYard x = three().then(y -> y.tariff(1, 1, 0, 0, 0)).then(y -> y.tariff(2, 19, 0, 0, 0)).yard();
        for (int i = 0; i < 40; i++) {
            x.plug(i % 2 == 0 ? 1 : 2, 0, 0);
            x.unplug(i);
        }
        CHECK.due("owes for all 40", x.owes(0), 20 + 20 * 19);
        CHECK.due("the firm 1, of shares of 0", x.account(1), 0);
        CHECK.due("the firm 2, of shares of 18", x.account(2), 360);
        CHECK.due("the card's firm", x.account(0), 40);
    }

    /** The greatest bill that there may be: by the most tariff, a full car in all minutes; and what it takes off. */
    private static void theGreatestBill() {
        History made = three().then(x -> x.tariff(1, 1000, 1000, 1000, 1000)).then(x -> x.car(1, 1, 1));
        ChargeYard x = made.then(y -> y.plug(1, 3, 0)).pass(20000).yard();
        bills("all minutes but ten", x, 0, 1000 + 19990 * 1000);
        x.unplug(0);
        CHECK.due("owes", x.owes(0), 19991000);
        CHECK.due("the socket's firm", x.account(1), 18991450);
        CHECK.due("the card's firm", x.account(0), 999550);
        CHECK.due("taken off", x.dispute(0, 99), 19791090);
        CHECK.due("owes then", x.owes(0), 199910);
        CHECK.due("the socket's firm then", x.account(1), 189915);
        CHECK.due("the card's firm then", x.account(0), 9995);
        ChargeYard y = three().then(z -> z.tariff(1, 0, 1000, 1000, 0)).then(z -> z.car(6000000, 0, 50000)).yard();
        y.set(0, 200000);
        y.plug(1, 3, 0);
        History.passFor(y, 720);
        // 96 minutes to eight tenths and 48 more: all of the night
        bills("the most energy at the most price", y, 0, 100000);
    }
}
