/** The document's Terms, "Power": a test for each sentence that names an edge; power and powerAnew answer alike. */
public final class EdgesOfPowerTest {
    private static final Check CHECK = new Check("EdgesOfPowerTest");

    public static void main(String[] args) {
        limitAtFirst();
        sunAtFirst();
        boundOfTheSocket();
        nothingIfFaulty();
        downFirst5Minutes();
        downWithLessThan1400();
        downWithoutAMinute();
        downBehindAMinuteOfNothing();
        downAtMostItsBound();
        downWithoutCar();
        downAgain();
        begunWhileDown();
        begunLongBehindGoingDown();
        begunWhileDownThenDownAgain();
        takenFirst();
        takenWhetherThereIsSoMuchOrNot();
        bound1400IsServedFirst();
        so1400IsLeft();
        byRanksThenByNumbers();
        lesserBoundsBehind();
        lesserBoundsByRanksThenByNumbers();
        lesserBoundAbove0();
        oneByOneToTheLeast();
        oneByOneToTheLowestNumber();
        lessThanTheirBounds();
        whoHave1400();
        linksBeingUp();
        allThatThereIs();
        nothingAtAll();
        overloadIfMore();
        overloadWithSun();
        noSessions();
        CHECK.end();
    }

    private static void powers(String when, History ahead, int... watts) {
        for (int i = 0; i < watts.length; i++) {
            int session = i;
            CHECK.due(when + ", power(" + i + ")", ahead.yard().power(session), watts[i]);
            CHECK.due(when + ", powerAnew(" + i + ")", ahead.yard().powerAnew(session), watts[i]);
        }
        ChargeYard x = ahead.yard();
        x.pass(1);
        for (int i = 0; i < watts.length; i++) {
            // one that is unplugged tells of its latest minute
            if (x.of(i, 4) == 1) {
                CHECK.due(when + ", of(" + i + ", 0)", x.of(i, 0), watts[i]);
            }
        }
    }

    /** A session for each of these, of rank 0 and with so much power, at a socket of 50000. */
    private static History cars(int limit, int... power) {
        return ranked(limit, new int[power.length], power);
    }

    private static History ranked(int limit, int[] rank, int... power) {
        History made = new History().then(x -> x.set(0, limit));
        for (int i = 0; i < power.length; i++) {
            int number = i;
            made.then(x -> x.socket(0, 50000)).then(x -> x.car(6000000, 0, power[number]));
            made.then(x -> x.card(0, rank[number])).then(x -> x.plug(number, number, number));
        }
        return made;
    }

    private static History set(History ahead, int limit) {
        return ahead.and(x -> x.set(0, limit));
    }

    /** "The cable has a limit in watts, 10000 at first" */
    private static void limitAtFirst() {
        History first = new History().then(x -> x.socket(0, 50000)).then(x -> x.car(6000000, 0, 50000));
        powers("at first", first.then(x -> x.card(0, 0)).then(x -> x.plug(0, 0, 0)), 10000);
    }

    /** "and there is sun, 0 at first, that adds to it" */
    private static void sunAtFirst() {
        History first = cars(10000, 50000);
        powers("one watt of sun", first.and(x -> x.set(1, 1)), 10001);
        powers("the most sun, no limit", set(first, 0).and(x -> x.set(1, 100000)), 50000);
        powers("sun alone", set(first, 0).and(x -> x.set(1, 1400)), 1400);
        powers("too little sun alone", set(first, 0).and(x -> x.set(1, 1399)), 0);
    }

    /** "what the car wants, at most the power of the socket" */
    private static void boundOfTheSocket() {
        for (int most : new int[] {1400, 4999, 5000, 5001}) {
            History made = new History().then(x -> x.socket(0, most)).then(x -> x.car(600000, 0, 5000));
            powers("a socket of " + most, made.then(x -> x.card(0, 0)).then(x -> x.plug(0, 0, 0)),
                    Math.min(most, 5000));
        }
    }

    /** "nothing if it is FAULTY": whether its link is up or down, and the others have what it had. */
    private static void nothingIfFaulty() {
        History both = cars(5000, 3000, 3000).pass(1);
        powers("both whole", both, 2500, 2500);
        powers("one faulty", both.and(x -> x.fault(0, true)), 0, 3000);
        powers("one faulty, its link down", both.and(x -> x.link(0, false)).and(x -> x.fault(0, true)), 0, 3000);
        powers("whole again", both.and(x -> x.fault(0, true)).and(x -> x.fault(0, false)), 2500, 2500);
    }

    /** "in the first 5 minutes of that, at most what it had in the minute that passed last .., later at most 1400" */
    private static void downFirst5Minutes() {
        History down = cars(10000, 3000).pass(2).then(x -> x.link(0, false));
        for (int minute = 1; minute <= 12; minute++) {
            powers("minute " + minute + " of being down", down, minute <= 5 ? 3000 : 1400);
            down.pass(1);
        }
        History more = cars(2000, 3000).pass(1).then(x -> x.set(0, 2500)).pass(1).then(x -> x.link(0, false));
        powers("what it had in the last minute", set(more, 2900), 2500);
        powers("in the fifth minute", set(more, 2900).pass(4), 2500);
        powers("in the sixth minute", set(more, 2900).pass(5), 1400);
    }

    /** "at most what it had", though that be less than 1400; "later at most 1400" */
    private static void downWithLessThan1400() {
        History down = cars(700, 700).pass(1).then(x -> x.link(0, false)).pass(5);
        powers("later at most what it wants", down, 700);
        History none = cars(1399, 3000).pass(1).then(x -> x.set(0, 9000)).then(x -> x.link(0, false));
        powers("it had nothing", none, 0);
        powers("it had nothing, fifth minute", none.pass(4), 0);
        powers("later it has more", none.pass(1), 1400);
        History exactly = cars(1400, 3000).pass(1).then(x -> x.set(0, 9000)).then(x -> x.link(0, false));
        powers("it had 1400", exactly, 1400);
        powers("it has 1400 later", exactly.pass(5), 1400);
        History odd = cars(1401, 3000).pass(1).then(x -> x.link(0, false)).pass(4);
        powers("it had 1401, fifth minute", odd, 1401);
        powers("it had 1401, sixth minute", odd.pass(1), 1400);
    }

    /** "(0 without one)": plugged in the very minute in which the link goes down. */
    private static void downWithoutAMinute() {
        History down = cars(10000, 3000).then(x -> x.link(0, false));
        for (int minute = 1; minute <= 7; minute++) {
            powers("without one, minute " + minute, down, minute <= 5 ? 0 : 1400);
            down.pass(1);
        }
        // minutes that passed ahead of the session do not count
        History late = History.of(1, 2, 1).then(x -> x.plug(0, 0, 0)).pass(3).then(x -> x.unplug(0));
        late.then(x -> x.plug(0, 1, 0)).then(x -> x.link(0, false));
        powers("without one of its own", late, 0, 0);
        powers("without one of its own, sixth minute", late.pass(5), 0, 1400);
    }

    /** "the minute that passed last ahead of its going down": that one alone. */
    private static void downBehindAMinuteOfNothing() {
        History made = cars(10000, 3000).pass(3).then(x -> x.fault(0, true)).pass(1).then(x -> x.fault(0, false));
        powers("nothing in the last minute", made.then(x -> x.link(0, false)), 0);
        History full = new History().then(x -> x.socket(0, 5000)).then(x -> x.car(5000, 0, 3000));
        full.then(x -> x.card(0, 0)).then(x -> x.plug(0, 0, 0)).pass(1).then(x -> x.link(0, false));
        powers("more than it lacks", full, 2000);
        powers("full", full.pass(1), 0);
    }

    /** "at most": its bound is a bound while the link is down too. */
    private static void downAtMostItsBound() {
        History down = cars(10000, 3000).pass(1).then(x -> x.link(0, false));
        powers("colder", down.and(x -> x.set(2, -50)), 1500);
        powers("colder, later", down.and(x -> x.set(2, -50)).pass(5), 1400);
        History small = cars(10000, 2700).pass(1).then(x -> x.link(0, false)).then(x -> x.set(2, -49)).pass(5);
        // of 2700 watts 51 hundredths are left
        powers("less than 1400, later", small, 1377);
    }

    /** A session that is plugged behind another, while the link is down, has nothing of what the other had. */
    private static void downWithoutCar() {
        History made = History.of(1, 2, 1).pass(1440).then(x -> x.plug(0, 0, 0)).pass(1).then(x -> x.link(0, false));
        made.then(x -> x.unplug(0)).then(x -> x.plug(0, 1, 0));
        powers("begun behind another", made, 0, 1400);
    }

    /** A link that goes down again has its first 5 minutes again; one that is down already goes on. */
    private static void downAgain() {
        History down = cars(10000, 3000).pass(1).then(x -> x.link(0, false)).pass(4);
        powers("down while it is down", down.and(x -> x.link(0, false)).pass(1), 1400);
        History again = down.and(x -> x.link(0, true)).and(x -> x.link(0, false));
        powers("down again, fifth minute", again.pass(4), 3000);
        powers("down again, sixth minute", again.pass(1), 1400);
        History later = down.pass(2).then(x -> x.link(0, true)).then(x -> x.link(0, false));
        powers("down again behind a minute of 1400", later, 1400);
        History higher = later.and(x -> x.link(0, true)).pass(1).then(x -> x.link(0, false));
        powers("down again behind a minute of 3000", higher.pass(4), 3000);
    }

    /** "a session begun while it is down at most 1400": from its first minute on. */
    private static void begunWhileDown() {
        History down = History.of(1, 1, 1).pass(1440).then(x -> x.link(0, false)).then(x -> x.plug(0, 0, 0));
        for (int minute = 1; minute <= 7; minute++) {
            powers("begun while down, minute " + minute, down, 1400);
            down.pass(1);
        }
        for (int power : new int[] {1, 1399, 1400, 1401}) {
            History small = History.of(1, 0, 1).then(x -> x.car(600000, 0, power)).pass(1440);
            small.then(x -> x.link(0, false)).then(x -> x.plug(0, 0, 0));
            powers("begun while down, a car of " + power, small, Math.min(power, 1400));
        }
    }

    private static void begunLongBehindGoingDown() {
        History down = History.of(1, 2, 1).then(x -> x.link(0, false)).pass(1440).then(x -> x.plug(0, 0, 0));
        powers("begun a day behind", down, 1400);
        powers("a second one", down.pass(3).then(x -> x.unplug(0)).then(x -> x.plug(0, 1, 0)), 0, 1400);
    }

    /** "begun while it is down": once the link was up, it is as any other. */
    private static void begunWhileDownThenDownAgain() {
        History up = History.of(1, 1, 1).pass(1440).then(x -> x.link(0, false)).then(x -> x.plug(0, 0, 0)).pass(1)
                .then(x -> x.link(0, true));
        powers("up", up, 3000);
        powers("down at once", up.and(x -> x.link(0, false)), 1400);
        History down = up.pass(1).then(x -> x.link(0, false));
        powers("down behind a minute", down, 3000);
        powers("down behind a minute, fifth", down.pass(4), 3000);
        powers("down behind a minute, sixth", down.pass(1), 1400);
    }

    /** "This is taken from what there is first": ahead of greater ranks and lower numbers. */
    private static void takenFirst() {
        int[] ranks = {3, 0, 2};
        History down = ranked(10000, ranks, 3000, 3000, 1000).pass(1).then(x -> x.link(1, false));
        powers("for all", down, 3000, 3000, 1000);
        powers("for 1400 and 1000 more", set(down, 5400), 1400, 3000, 1000);
        powers("for 1400 and one less than 1000 more", set(down, 5399), 2399, 3000, 0);
        powers("for 1400 more", set(down, 4400), 1400, 3000, 0);
        powers("for one less than 1400 more", set(down, 4399), 0, 3000, 1000);
        powers("for 1000 more", set(down, 4000), 0, 3000, 1000);
        powers("for one less than 1000 more", set(down, 3999), 0, 3000, 0);
        powers("for none more", set(down, 3000), 0, 3000, 0);
    }

    /** "whether there is so much or not" */
    private static void takenWhetherThereIsSoMuchOrNot() {
        History down = cars(10000, 3000, 3000, 1).pass(1).then(x -> x.link(0, false));
        powers("one watt too little", set(down, 2999), 3000, 0, 0);
        powers("nothing at all", set(down, 0), 3000, 0, 0);
        powers("one watt more", set(down, 3001), 3000, 0, 1);
        History both = down.and(x -> x.link(1, false));
        powers("two of them", set(both, 0), 3000, 3000, 0);
        powers("two of them, later", set(both, 0).pass(5), 1400, 1400, 0);
    }

    /** "those with a bound of 1400 or more are served": ahead of a lesser one of the greatest rank. */
    private static void bound1400IsServedFirst() {
        int[] ranks = {3, 0};
        powers("1399 and 1400", ranked(1400, ranks, 1399, 1400), 0, 1400);
        powers("1399 and 1400, one less", ranked(1399, ranks, 1399, 1400), 1399, 0);
        powers("1400 and 1400", ranked(1400, ranks, 1400, 1400), 1400, 0);
        powers("1399 and 1399", ranked(1400, ranks, 1399, 1399), 1399, 0);
    }

    /** "each has 1400, if so much is left, otherwise nothing" */
    private static void so1400IsLeft() {
        powers("1399", cars(1399, 3000, 3000), 0, 0);
        powers("1400", cars(1400, 3000, 3000), 1400, 0);
        powers("2799", cars(2799, 3000, 3000), 2799, 0);
        powers("2800", cars(2800, 3000, 3000), 1400, 1400);
        powers("2801", cars(2801, 3000, 3000), 1401, 1400);
    }

    /** "by ranks, the greatest first, of one rank by numbers" */
    private static void byRanksThenByNumbers() {
        int[] ranks = {1, 2, 1, 3, 2};
        int[] power = {1400, 1400, 1400, 1400, 1400};
        powers("one", ranked(1400, ranks, power), 0, 0, 0, 1400, 0);
        powers("two", ranked(2800, ranks, power), 0, 1400, 0, 1400, 0);
        powers("three", ranked(4200, ranks, power), 0, 1400, 0, 1400, 1400);
        powers("four", ranked(5600, ranks, power), 1400, 1400, 0, 1400, 1400);
        powers("five, but one watt", ranked(6999, ranks, power), 1400, 1400, 0, 1400, 1400);
        powers("five", ranked(7000, ranks, power), 1400, 1400, 1400, 1400, 1400);
        // by the numbers of sessions, not of sockets or cards
        History turned = History.of(2, 2, 2).then(x -> x.set(0, 1400));
        turned.then(x -> x.plug(1, 1, 1)).then(x -> x.plug(0, 0, 0));
        powers("the first session at the last socket", turned, 1400, 0);
    }

    /** "Those with a lesser bound, but above 0, are served behind them .., each with its bound, if so much is left." */
    private static void lesserBoundsBehind() {
        powers("one less than both", cars(2398, 999, 1400), 0, 1400);
        powers("just both", cars(2399, 999, 1400), 999, 1400);
        powers("one more than both, and more wanted", cars(2400, 999, 3000), 999, 1401);
        powers("one less, and more wanted", cars(2398, 999, 3000), 0, 2398);
        powers("its bound and no more", cars(200000, 1399), 1399);
        powers("no part of its bound", cars(1398, 1399), 0);
    }

    /** "likewise": by ranks, of one rank by numbers, and who finds too little leaves it to the next. */
    private static void lesserBoundsByRanksThenByNumbers() {
        int[] ranks = {0, 1, 0, 1};
        powers("the first of the greater rank", ranked(500, ranks, 500, 500, 500, 500), 0, 500, 0, 0);
        powers("the greater rank", ranked(1000, ranks, 500, 500, 500, 500), 0, 500, 0, 500);
        powers("one of the lesser rank", ranked(1500, ranks, 500, 500, 500, 500), 500, 500, 0, 500);
        powers("all but one watt", ranked(1999, ranks, 500, 500, 500, 500), 500, 500, 0, 500);
        powers("all", ranked(2000, ranks, 500, 500, 500, 500), 500, 500, 500, 500);
        powers("too little for the greater rank", ranked(300, ranks, 300, 301, 299, 302), 300, 0, 0, 0);
        powers("too little for all but the last", ranked(299, ranks, 300, 301, 299, 302), 0, 0, 299, 0);
    }

    /** "but above 0": a full car has nothing, and takes nothing from another. */
    private static void lesserBoundAbove0() {
        History made = cars(1, 1, 1).and(x -> x.fault(0, true));
        powers("a bound of 0 and one of 1", made, 0, 1);
        powers("a bound of 1 and one of 1", cars(1, 1, 1), 1, 0);
        powers("no watt", cars(0, 1, 1), 0, 0);
    }

    /** "given in watts one by one, each to that one .. that has the least": ranks do not count in this. */
    private static void oneByOneToTheLeast() {
        int[] ranks = {0, 3, 1};
        powers("none more", ranked(4200, ranks, 9000, 9000, 9000), 1400, 1400, 1400);
        powers("one more", ranked(4201, ranks, 9000, 9000, 9000), 1401, 1400, 1400);
        powers("two more", ranked(4202, ranks, 9000, 9000, 9000), 1401, 1401, 1400);
        powers("three more", ranked(4203, ranks, 9000, 9000, 9000), 1401, 1401, 1401);
        powers("far more", ranked(9002, ranks, 9000, 9000, 9000), 3001, 3001, 3000);
        powers("two more than all have", ranked(26998, ranks, 9000, 9000, 9000), 9000, 8999, 8999);
        powers("one more than all have", ranked(26999, ranks, 9000, 9000, 9000), 9000, 9000, 8999);
    }

    /** "of several to the lowest number": of the sessions, wherever they are plugged. */
    private static void oneByOneToTheLowestNumber() {
        History turned = History.of(3, 3, 3).then(x -> x.set(0, 4201));
        turned.then(x -> x.plug(2, 2, 2)).then(x -> x.plug(1, 1, 1)).then(x -> x.plug(0, 0, 0));
        powers("the session 0", turned, 1401, 1400, 1400);
        History later = turned.and(x -> x.unplug(0)).and(x -> x.plug(2, 2, 2));
        powers("the session 1", later, 0, 1401, 1400, 1400);
    }

    /** "and less than their bounds" */
    private static void lessThanTheirBounds() {
        powers("one below", cars(2800, 1401, 1400), 1400, 1400);
        powers("at the bound", cars(2801, 1401, 1400), 1401, 1400);
        powers("above", cars(2802, 1401, 1400), 1401, 1400);
        powers("it goes to the other", cars(2802, 1401, 1402), 1401, 1401);
        powers("all to the other", cars(2803, 1401, 1402), 1401, 1402);
        powers("to two others", cars(4206, 1401, 9000, 9000), 1401, 1403, 1402);
        powers("the lowest number has its bound", cars(4202, 1400, 9000, 9000), 1400, 1401, 1401);
        powers("bounds of two steps", cars(4207, 1402, 1404, 1401), 1402, 1404, 1401);
        powers("bounds of two steps, one less", cars(4206, 1402, 1404, 1401), 1402, 1403, 1401);
    }

    /** "who have 1400 or more": neither those that were not served, nor those with a lesser bound. */
    private static void whoHave1400() {
        powers("the other was not served", cars(2500, 3000, 3000), 2500, 0);
        powers("no one was served", cars(1399, 3000, 3000, 1400), 0, 0, 0);
        powers("the least is of a lesser bound", cars(5000, 900, 9000), 900, 4100);
        powers("not served, and more than it wants", cars(1500, 1450, 1400), 1450, 0);
    }

    /** "their links being up": one that had 1400 or more keeps to what it heard last. */
    private static void linksBeingUp() {
        History down = cars(3000, 9000, 9000).pass(1).then(x -> x.link(0, false));
        powers("ahead of it", cars(3000, 9000, 9000), 1500, 1500);
        powers("the rest to the other", set(down, 9000), 1500, 7500);
        powers("the rest to the other, later", set(down, 9000).pass(5), 1400, 7600);
    }

    /** The most cars, and the most that cable and sun can give: 300000 watts. */
    private static void allThatThereIs() {
        int[] most = {50000, 50000, 50000, 50000, 50000, 50000, 50000, 50000};
        History eight = cars(200000, most).then(x -> x.set(1, 100000));
        powers("eight", eight, 37500, 37500, 37500, 37500, 37500, 37500, 37500, 37500);
        powers("seven", eight.and(x -> x.unplug(7)), 42858, 42857, 42857, 42857, 42857, 42857, 42857, 0);
        History five = eight.and(x -> x.unplug(7)).and(x -> x.unplug(6)).and(x -> x.fault(0, true));
        powers("five", five, 0, 50000, 50000, 50000, 50000, 50000, 0, 0);
        History down = cars(200000, 50000, 50000, 50000, 50000).pass(1);
        for (int i = 0; i < 4; i++) {
            int socket = i;
            down.then(x -> x.link(socket, false));
        }
        powers("four that take all, and nothing there", set(down, 0), 50000, 50000, 50000, 50000);
    }

    /** A limit and a sun of 0 watts. */
    private static void nothingAtAll() {
        powers("no watt", cars(0, 50000, 1400, 1399, 1), 0, 0, 0, 0);
        powers("one watt", cars(1, 50000, 1400, 1399, 1), 0, 0, 0, 1);
    }

    /** "If all that flows is more than the cable and the sun can give, it is an overload." */
    private static void overloadIfMore() {
        History down = cars(10000, 3000, 3000).pass(1).then(x -> x.link(0, false)).then(x -> x.fault(1, true));
        overloads("just as much", set(down, 3000), 0);
        overloads("one watt more", set(down, 2999), 1);
        overloads("more than nothing", set(down, 0), 1);
        overloads("nothing of nothing", cars(0, 3000), 0);
        overloads("all that there is", cars(1401, 3000, 3000), 0);
        overloads("five minutes", set(down, 2999).pass(4), 5);
        overloads("no sixth minute", set(down, 2999).pass(5), 5);
        overloads("1400 of 1400", set(down, 1400).pass(5), 5);
        overloads("1400 of 1399", set(down, 1399).pass(5), 6);
        overloads("not behind unplugging", set(down, 0).pass(2).then(x -> x.unplug(0)), 2);
    }

    private static void overloadWithSun() {
        History down = cars(10000, 3000).pass(1).then(x -> x.link(0, false)).then(x -> x.set(0, 2000));
        overloads("just as much with sun", down.and(x -> x.set(1, 1000)), 0);
        overloads("one watt more with sun", down.and(x -> x.set(1, 999)), 1);
    }

    /** Promise 18: in how many minutes, one more minute having passed. */
    private static void overloads(String when, History ahead, int due) {
        CHECK.due("overloads, " + when, ahead.and(x -> x.pass(1)).yard().overloads(), due);
    }

    /** Nothing there yet: minutes pass all the same. */
    private static void noSessions() {
        ChargeYard x = new ChargeYard();
        x.set(0, 0);
        CHECK.due("a yard without anything", x.pass(120), 120);
        CHECK.due("overloads of it", x.overloads(), 0);
        CHECK.noSuch("power of its session 0", () -> x.power(0));
    }
}
