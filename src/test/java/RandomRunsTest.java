import java.util.ArrayList;
import java.util.List;
import java.util.Random;
import java.util.function.IntSupplier;

/** Runs of 512 calls by chance, the same ones each time, on ChargeYard and on PlainYard. */
public final class RandomRunsTest {
    private static final int RUNS = 400;
    private static final int CALLS = 512;
    private static final int[] LIMITS = {0, 1399, 2800, 4201, 5600, 7003, 9000, 12000, 30000, 200000};

    private final Check check;
    private final ChargeYard x = new ChargeYard();
    private final PlainYard y = new PlainYard();
    private final Random chance;
    private final int run;
    /** How often of 100 times an argument is wrong. */
    private final int wrong;
    private final int longest;
    private int calls = 0;
    private int sockets = 0;
    private int cars = 0;
    private int cards = 0;
    private int sessions = 0;
    private final List<Integer> running = new ArrayList<>();
    private int now = 0;

    private RandomRunsTest(Check check, int run) {
        this.check = check;
        this.run = run;
        this.chance = new Random(run);
        this.wrong = run % 4 == 0 ? 10 : 1;
        this.longest = run % 3 == 0 ? 120 : run % 3 == 1 ? 20 : 4;
    }

    public static void main(String[] args) {
        Check check = new Check("RandomRunsTest");
        for (int run = 0; run < RUNS; run++) {
            new RandomRunsTest(check, run).all();
        }
        check.end();
    }

    private void all() {
        fill();
        while (calls < CALLS - 60) {
            step();
        }
        lookAtAll();
    }

    private String answer(IntSupplier call) {
        try {
            return Integer.toString(call.getAsInt());
        } catch (RuntimeException thrown) {
            return Check.nameOf(thrown);
        }
    }

    private String both(String call, IntSupplier ofX, IntSupplier ofY) {
        calls++;
        String got = answer(ofX);
        check.due("run " + run + ", call " + calls + ", " + call, got, answer(ofY));
        return got;
    }

    /** 0 to count less 1, seldom what is beyond. */
    private int number(int count) {
        if (chance.nextInt(100) < wrong) {
            return beyond(0, count - 1);
        }
        return chance.nextInt(Math.max(1, count));
    }

    private int within(int least, int most) {
        if (chance.nextInt(100) < wrong) {
            return beyond(least, most);
        }
        int kind = chance.nextInt(10);
        return kind == 0 ? least : kind == 1 ? most : least + chance.nextInt(most - least + 1);
    }

    private int beyond(int least, int most) {
        if (chance.nextInt(4) == 0) {
            return chance.nextBoolean() ? Integer.MIN_VALUE : Integer.MAX_VALUE;
        }
        return chance.nextBoolean() ? least - 1 - chance.nextInt(3) : most + 1 + chance.nextInt(3);
    }

    /** A session that goes on, if there is one, seldom any. */
    private int session() {
        boolean isAny = running.isEmpty() || chance.nextInt(6) == 0;
        return isAny ? number(sessions) : running.get(chance.nextInt(running.size()));
    }

    private static boolean isNumber(String answer) {
        return answer.charAt(0) >= '0' && answer.charAt(0) <= '9';
    }

    private void fill() {
        int many = 2 + chance.nextInt(9);
        for (int i = 0; i < many; i++) {
            int firm = number(3);
            int power = within(1400, chance.nextBoolean() ? 5000 : 50000);
            String got = both("socket(" + firm + ", " + power + ")",
                    () -> x.socket(firm, power), () -> y.socket(firm, power));
            sockets += isNumber(got) ? 1 : 0;
        }
        for (int i = 0; i < many + 4; i++) {
            addCar();
            int firm = number(3);
            int rank = within(0, 3);
            String got = both("card(" + firm + ", " + rank + ")", () -> x.card(firm, rank), () -> y.card(firm, rank));
            cards += isNumber(got) ? 1 : 0;
        }
        for (int i = 0; i < 3; i++) {
            changeTariff();
        }
    }

    private void addCar() {
        int capacity = within(1, new int[] {20000, 300000, 6000000}[Math.min(2, chance.nextInt(5))]);
        int mostCharge = chance.nextBoolean() ? capacity : capacity / 2 + 1;
        int charge = capacity < 1 || capacity > 6000000 ? 0 : within(0, mostCharge);
        int power = within(1, new int[] {1500, 5000, 50000}[chance.nextInt(3)]);
        String got = both("car(" + capacity + ", " + charge + ", " + power + ")",
                () -> x.car(capacity, charge, power), () -> y.car(capacity, charge, power));
        cars += isNumber(got) ? 1 : 0;
    }

    private void changeTariff() {
        int firm = number(3);
        int start = within(0, 1000);
        int day = within(0, 1000);
        int night = within(0, 1000);
        int idle = within(0, 1000);
        both("tariff(" + firm + ", " + start + ", " + day + ", " + night + ", " + idle + ")", () -> {
            x.tariff(firm, start, day, night, idle);
            return 0;
        }, () -> {
            y.tariff(firm, start, day, night, idle);
            return 0;
        });
    }

    private void step() {
        int kind = chance.nextInt(100);
        if (kind < 16) {
            plug();
        } else if (kind < 22) {
            unplug();
        } else if (kind < 26) {
            dispute();
        } else if (kind < 40) {
            pass();
        } else if (kind < 46) {
            book();
        } else if (kind < 54) {
            changeLink();
        } else if (kind < 64) {
            changeOther();
        } else {
            look();
        }
    }

    private void plug() {
        int socket = number(sockets);
        int car = number(cars);
        int card = number(cards);
        String got = both("plug(" + socket + ", " + car + ", " + card + ")",
                () -> x.plug(socket, car, card), () -> y.plug(socket, car, card));
        if (isNumber(got)) {
            sessions++;
            running.add(Integer.valueOf(got));
        }
    }

    private void unplug() {
        int session = session();
        both("unplug(" + session + ")", () -> x.unplug(session), () -> y.unplug(session));
        running.remove(Integer.valueOf(session));
    }

    private void dispute() {
        int session = number(sessions);
        int hundredths = within(1, 100);
        both("dispute(" + session + ", " + hundredths + ")",
                () -> x.dispute(session, hundredths), () -> y.dispute(session, hundredths));
    }

    private void pass() {
        int minutes = within(1, longest);
        String got = both("pass(" + minutes + ")", () -> x.pass(minutes), () -> y.pass(minutes));
        if (isNumber(got)) {
            now = Integer.parseInt(got);
        }
    }

    private void book() {
        int socket = number(sockets);
        int card = number(cards);
        int from = chance.nextInt(100) < wrong ? now - 1 : now + chance.nextInt(60);
        int minutes = within(15, chance.nextBoolean() ? 30 : 600);
        both("book(" + socket + ", " + card + ", " + from + ", " + minutes + ")",
                () -> x.book(socket, card, from, minutes), () -> y.book(socket, card, from, minutes));
    }

    private void changeLink() {
        int socket = number(sockets);
        boolean isUp = chance.nextInt(5) < 3;
        both("link(" + socket + ", " + isUp + ")", () -> x.link(socket, isUp), () -> y.link(socket, isUp));
    }

    private void changeOther() {
        int socket = number(sockets);
        int card = number(cards);
        boolean is = chance.nextInt(5) == 0;
        switch (chance.nextInt(5)) {
            case 0 -> both("fault(" + socket + ", " + is + ")",
                    () -> x.fault(socket, is) ? 1 : 0, () -> y.fault(socket, is) ? 1 : 0);
            case 1 -> both("good(" + card + ", " + !is + ")",
                    () -> x.good(card, !is) ? 1 : 0, () -> y.good(card, !is) ? 1 : 0);
            case 2 -> changeSetting(0, LIMITS[chance.nextInt(LIMITS.length)] + chance.nextInt(3));
            case 3 -> changeTariff();
            default -> {
                int what = within(0, 2);
                changeSetting(what, what == 2 ? within(-50, 50) : within(0, what == 0 ? 20000 : 3000));
            }
        }
    }

    private void changeSetting(int what, int value) {
        both("set(" + what + ", " + value + ")", () -> x.set(what, value), () -> y.set(what, value));
    }

    private void look() {
        int session = session();
        int what = within(0, 6);
        int car = number(cars);
        int card = number(cards);
        int firm = number(3);
        switch (chance.nextInt(12)) {
            case 0 -> both("of(" + session + ", " + what + ")", () -> x.of(session, what), () -> y.of(session, what));
            case 1 -> both("charge(" + car + ")", () -> x.charge(car), () -> y.charge(car));
            case 2 -> both("power(" + session + ")", () -> x.power(session), () -> y.power(session));
            case 3 -> both("powerAnew(" + session + ")", () -> x.powerAnew(session), () -> y.powerAnew(session));
            case 4 -> both("overloads()", x::overloads, y::overloads);
            case 5 -> both("bill(" + session + ")", () -> x.bill(session), () -> y.bill(session));
            case 6 -> both("billAnew(" + session + ")", () -> x.billAnew(session), () -> y.billAnew(session));
            case 7, 8 -> both("power(" + session + ")", () -> x.power(session), () -> y.power(session));
            case 9, 10 -> both("owes(" + card + ")", () -> x.owes(card), () -> y.owes(card));
            default -> both("account(" + firm + ")", () -> x.account(firm), () -> y.account(firm));
        }
    }

    private void lookAtAll() {
        for (int i = 0; i < 3; i++) {
            int firm = i;
            both("account(" + firm + ")", () -> x.account(firm), () -> y.account(firm));
        }
        for (int i = 0; i < 10; i++) {
            int one = i;
            both("owes(" + one + ")", () -> x.owes(one), () -> y.owes(one));
            both("charge(" + one + ")", () -> x.charge(one), () -> y.charge(one));
        }
        for (int i = Math.max(0, sessions - 8); i < sessions; i++) {
            int one = i;
            both("power(" + one + ")", () -> x.power(one), () -> y.power(one));
            both("bill(" + one + ")", () -> x.bill(one), () -> y.bill(one));
            both("billAnew(" + one + ")", () -> x.billAnew(one), () -> y.billAnew(one));
        }
        both("overloads()", x::overloads, y::overloads);
    }
}
