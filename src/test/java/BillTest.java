/** Promises 19 to 23: bill, billAnew, dispute, owes and account. */
public final class BillTest {
    private static final Check CHECK = new Check("BillTest");

    public static void main(String[] args) {
        wrongArguments();
        start();
        dayAndNight();
        eachRoundedDown();
        idling();
        idlingWhenFullOnly();
        valuesHeard();
        settlement();
        settlementWhenHeard();
        ownFirm();
        disputes();
        disputeRounded();
        greatBills();
        CHECK.end();
    }

    private static void bills(String when, ChargeYard x, int session, int cents) {
        CHECK.due(when + ", bill", x.bill(session), cents);
        CHECK.due(when + ", billAnew", x.billAnew(session), cents);
    }

    private static void wrongArguments() {
        ChargeYard x = yard();
        CHECK.noSuch("bill(0)", () -> x.bill(0));
        CHECK.noSuch("bill(-1)", () -> x.bill(-1));
        CHECK.noSuch("billAnew(0)", () -> x.billAnew(0));
        CHECK.noSuch("billAnew(-1)", () -> x.billAnew(-1));
        CHECK.noSuch("dispute(0, 0)", () -> x.dispute(0, 0));
        CHECK.noSuch("dispute(-1, 50)", () -> x.dispute(-1, 50));
        CHECK.noSuch("owes(2)", () -> x.owes(2));
        CHECK.noSuch("owes(-1)", () -> x.owes(-1));
        CHECK.noSuch("account(3)", () -> x.account(3));
        CHECK.noSuch("account(-1)", () -> x.account(-1));
    }

    private static void start() {
        ChargeYard x = yard();
        x.tariff(0, 77, 0, 0, 0);
        x.plug(0, 0, 0);
        bills("without a minute", x, 0, 77);
        x.tariff(0, 99, 0, 0, 0);
        x.pass(1);
        bills("by the tariff as it was", x, 0, 77);
        x.unplug(0);
        CHECK.due("owes", x.owes(0), 77);
    }

    private static void dayAndNight() {
        ChargeYard x = yard();
        x.tariff(0, 0, 100, 1, 0);
        passTo(x, 340);
        x.plug(0, 0, 0);
        x.pass(20);
        bills("a kilowatt hour of the night", x, 0, 1);
        x.pass(20);
        bills("and one of the day", x, 0, 101);
        x.unplug(0);
        passTo(x, 1300);
        x.plug(0, 1, 0);
        x.pass(20);
        bills("a kilowatt hour of the day", x, 1, 100);
        x.pass(20);
        bills("and one of the night", x, 1, 101);
        x.unplug(1);
        passTo(x, 1440 + 359);
        x.plug(0, 0, 0);
        x.pass(1);
        bills("the minute 359 of the next day", x, 2, 0);
        x.pass(1);
        bills("the minute 360 of the next day", x, 2, 5);
    }

    private static void eachRoundedDown() {
        ChargeYard x = yard();
        x.tariff(0, 3, 20, 20, 0);
        x.car(600000, 0, 2999);
        passTo(x, 359);
        x.plug(0, 2, 0);
        x.pass(2);
        // 2999 watt minutes of each, times 20, are 59980
        bills("not yet a cent of either", x, 0, 3);
        x.pass(1);
        bills("a cent of the day", x, 0, 4);
    }

    private static void idling() {
        ChargeYard x = yard();
        x.tariff(1, 5, 0, 0, 7);
        x.car(1000, 0, 1000);
        x.plug(1, 2, 0);
        x.pass(1);
        bills("it fills", x, 0, 5);
        x.pass(10);
        bills("ten minutes cost nothing", x, 0, 5);
        x.pass(1);
        bills("the eleventh costs", x, 0, 12);
        x.link(1, false);
        x.fault(1, true);
        x.pass(2);
        CHECK.due("kept at the socket", x.bill(0), 12);
        CHECK.due("all", x.billAnew(0), 26);
        x.unplug(0);
        x.link(1, true);
        x.fault(1, false);
        CHECK.due("owes", x.owes(0), 26);
        x.plug(1, 2, 1);
        x.pass(10);
        bills("full from the first, ten minutes", x, 1, 5);
        x.pass(1);
        bills("full from the first, eleven", x, 1, 12);
    }

    private static void idlingWhenFullOnly() {
        ChargeYard x = yard();
        x.tariff(0, 0, 0, 0, 7);
        x.plug(0, 0, 0);
        x.set(0, 0);
        x.pass(50);
        bills("a car that is not full", x, 0, 0);
        x.car(1, 1, 1);
        x.plug(1, 2, 1);
        x.tariff(1, 0, 0, 0, 9);
        x.pass(50);
        bills("the tariff as it was", x, 1, 0);
    }

    private static void valuesHeard() {
        ChargeYard x = yard();
        x.tariff(0, 10, 0, 20, 0);
        x.plug(0, 0, 0);
        x.pass(20);
        bills("all heard", x, 0, 30);
        x.link(0, false);
        x.pass(5);
        CHECK.due("what is heard", x.bill(0), 30);
        CHECK.due("what is kept too", x.billAnew(0), 35);
        CHECK.due("five wait", x.unplug(0), 5);
        CHECK.due("not billed yet", x.owes(0), 0);
        CHECK.notNow("no dispute of what is not billed", () -> x.dispute(0, 10));
        x.link(0, true);
        bills("all is heard", x, 0, 35);
        CHECK.due("billed", x.owes(0), 35);
    }

    private static void settlement() {
        ChargeYard x = yard();
        x.tariff(1, 101, 0, 0, 0);
        x.plug(1, 0, 0);
        CHECK.due("nothing while it goes on", x.owes(0), 0);
        x.unplug(0);
        CHECK.due("owes", x.owes(0), 101);
        CHECK.due("the other card", x.owes(1), 0);
        CHECK.due("the card's firm", x.account(0), 6);
        CHECK.due("the socket's firm", x.account(1), 95);
        CHECK.due("no other firm", x.account(2), 0);
        x.plug(1, 0, 1);
        x.unplug(1);
        CHECK.due("owes for its own firm's", x.owes(1), 101);
        CHECK.due("the card's and the socket's firm", x.account(1), 196);
    }

    private static void settlementWhenHeard() {
        ChargeYard x = yard();
        x.tariff(1, 100, 0, 0, 0);
        x.plug(1, 0, 0);
        x.pass(1);
        x.link(1, false);
        x.pass(2);
        x.unplug(0);
        CHECK.due("account while values wait", x.account(1), 0);
        CHECK.due("owes while values wait", x.owes(0), 0);
        CHECK.due("link up", x.link(1, true), 2);
        CHECK.due("account", x.account(1), 95);
        CHECK.due("owes", x.owes(0), 100);
        x.link(1, false);
        x.pass(1);
        x.link(1, true);
        CHECK.due("billed once", x.owes(0), 100);
    }

    private static void ownFirm() {
        ChargeYard x = yard();
        x.tariff(0, 50, 0, 0, 0);
        x.plug(0, 0, 0);
        x.unplug(0);
        CHECK.due("account", x.account(0), 50);
        CHECK.due("dispute", x.dispute(0, 30), 15);
        CHECK.due("account behind it", x.account(0), 35);
        CHECK.due("owes behind it", x.owes(0), 35);
    }

    private static void disputes() {
        ChargeYard x = yard();
        x.tariff(1, 1000, 0, 0, 0);
        x.plug(1, 0, 0);
        CHECK.notNow("while it goes on", () -> x.dispute(0, 50));
        x.unplug(0);
        CHECK.outOfRange("0 hundredths", () -> x.dispute(0, 0));
        CHECK.outOfRange("101 hundredths", () -> x.dispute(0, 101));
        CHECK.outOfRange("-1 hundredths", () -> x.dispute(0, -1));
        CHECK.due("nothing by these", x.owes(0), 1000);
        CHECK.due("100 hundredths", x.dispute(0, 100), 1000);
        CHECK.due("owes", x.owes(0), 0);
        CHECK.due("the card's firm", x.account(0), 0);
        CHECK.due("the socket's firm", x.account(1), 0);
        CHECK.due("the bill is as it was", x.bill(0), 1000);
        CHECK.due("billed still", x.of(0, 4), 3);
        CHECK.notNow("a second one", () -> x.dispute(0, 1));
        CHECK.outOfRange("a second one of 0 hundredths", () -> x.dispute(0, 0));
    }

    private static void disputeRounded() {
        ChargeYard x = yard();
        x.tariff(1, 99, 0, 0, 0);
        x.plug(1, 0, 0);
        x.unplug(0);
        CHECK.due("95 hundredths of 99", x.account(1), 94);
        CHECK.due("one hundredth of 99", x.dispute(0, 1), 0);
        CHECK.due("owes", x.owes(0), 99);
        CHECK.notNow("one that took nothing off counts", () -> x.dispute(0, 50));
        x.plug(1, 0, 0);
        x.unplug(1);
        CHECK.due("33 hundredths of 99", x.dispute(1, 33), 32);
        CHECK.due("owes then", x.owes(0), 166);
        // 94 of each, less 95 hundredths of 32, which are 30
        CHECK.due("the socket's firm then", x.account(1), 158);
        CHECK.due("the card's firm then", x.account(0), 8);
    }

    /** Energies times prices beyond an int, and an account below 0. */
    private static void greatBills() {
        ChargeYard x = yard();
        x.tariff(1, 1000, 1000, 1000, 1000);
        x.car(6000000, 0, 50000);
        x.socket(1, 50000);
        x.set(0, 200000);
        x.plug(2, 2, 0);
        passTo(x, 120);
        bills("96 minutes of 50000 watts and 24 of half", x, 0, 1000 + 80000 + 10000);
        passTo(x, 20000);
        // full behind 96 minutes of 50000 and 48 of 25000: 19856 minutes idle
        bills("in the end", x, 0, 1000 + 100000 + 19846 * 1000);
        x.unplug(0);
        CHECK.due("owes", x.owes(0), 19947000);
        CHECK.due("a hundredth", x.dispute(0, 99), 19747530);
        CHECK.due("owes then", x.owes(0), 199470);
    }

    private static void passTo(ChargeYard x, int minute) {
        int now = x.pass(1);
        for (int i = 0; i < 200 && now < minute; i++) {
            now = x.pass(Math.min(120, minute - now));
        }
    }

    /** Sockets of firms 0 and 1, two empty cars of 3000 watts, cards of firms 0 and 1. */
    private static ChargeYard yard() {
        ChargeYard x = new ChargeYard();
        for (int i = 0; i < 2; i++) {
            x.socket(i, 5000);
            x.car(600000, 0, 3000);
            x.card(i, 0);
        }
        return x;
    }
}
