import java.util.ArrayList;
import java.util.Comparator;
import java.util.List;

/** A second yard, after the words of the document and without regard to room or time, to ask ChargeYard against. */
final class PlainYard {
    record Value(int session, int minute, int energy, boolean full) { }

    record Tariff(int start, int day, int night, int idle) { }

    static final class Socket {
        int firm;
        int power;
        boolean faulty;
        boolean down;
        int minutesDown;
        List<Value> waiting = new ArrayList<>();
        List<Booking> bookings = new ArrayList<>();
    }

    static final class Booking {
        int card;
        int from;
        int to;
        int minutesHeld;
    }

    static final class Car {
        int capacity;
        int charge;
        int power;
    }

    static final class Card {
        int firm;
        int rank;
        boolean good = true;
        int owed;
    }

    static final class Session {
        int number;
        int socket;
        int car;
        int card;
        Tariff tariff;
        int power;
        int energy;
        int mostFirst;
        int billed = -1;
        boolean unplugged;
        boolean disputed;
        List<Value> heard = new ArrayList<>();
    }

    private final List<Socket> sockets = new ArrayList<>();
    private final List<Car> cars = new ArrayList<>();
    private final List<Card> cards = new ArrayList<>();
    private final List<Session> sessions = new ArrayList<>();
    private List<Integer> list = new ArrayList<>();
    private final Tariff[] tariffs = {new Tariff(0, 0, 0, 0), new Tariff(0, 0, 0, 0), new Tariff(0, 0, 0, 0)};
    /** owedByFirm[a][b]: what the firm a owes the firm b. */
    private final int[][] owedByFirm = new int[3][3];
    private final int[] settings = {10000, 0, 20};
    private int now = 0;
    private int overloads = 0;

    private static void there(int number, int count) {
        if (number < 0 || number >= count) {
            throw new IndexOutOfBoundsException();
        }
    }

    private static void range(boolean isIn) {
        if (!isIn) {
            throw new IllegalArgumentException();
        }
    }

    private static void state(boolean isRight) {
        if (!isRight) {
            throw new IllegalStateException();
        }
    }

    int socket(int firm, int power) {
        there(firm, 3);
        range(power >= 1400 && power <= 50000);
        state(sockets.size() < 8);
        Socket made = new Socket();
        made.firm = firm;
        made.power = power;
        sockets.add(made);
        return sockets.indexOf(made);
    }

    int car(int capacity, int charge, int power) {
        range(capacity >= 1 && capacity <= 6000000 && charge >= 0 && charge <= capacity);
        range(power >= 1 && power <= 50000);
        state(cars.size() < 12);
        Car made = new Car();
        made.capacity = capacity;
        made.charge = charge;
        made.power = power;
        cars.add(made);
        return cars.indexOf(made);
    }

    int card(int firm, int rank) {
        there(firm, 3);
        range(rank >= 0 && rank <= 3);
        state(cards.size() < 12);
        Card made = new Card();
        made.firm = firm;
        made.rank = rank;
        cards.add(made);
        return cards.indexOf(made);
    }

    boolean good(int card, boolean is) {
        there(card, cards.size());
        boolean was = cards.get(card).good;
        cards.get(card).good = is;
        return was;
    }

    int set(int what, int value) {
        range(what >= 0 && what <= 2);
        int[] least = {0, 0, -50};
        int[] most = {200000, 100000, 50};
        range(value >= least[what] && value <= most[what]);
        int was = settings[what];
        settings[what] = value;
        return was;
    }

    boolean fault(int socket, boolean is) {
        there(socket, sockets.size());
        boolean was = sockets.get(socket).faulty;
        sockets.get(socket).faulty = is;
        return was;
    }

    int link(int socket, boolean isUp) {
        there(socket, sockets.size());
        Socket one = sockets.get(socket);
        if (!isUp && !one.down) {
            one.minutesDown = 0;
            for (Session session : sessions) {
                if (session.socket == socket) {
                    session.mostFirst = session.power;
                }
            }
        }
        one.down = !isUp;
        int heard = 0;
        if (isUp) {
            heard = one.waiting.size();
            for (Value value : one.waiting) {
                sessions.get(value.session).heard.add(value);
            }
            one.waiting.clear();
            sessions.forEach(this::billIfDue);
        }
        return heard;
    }

    void tariff(int firm, int start, int day, int night, int idle) {
        there(firm, 3);
        for (int cents : new int[] {start, day, night, idle}) {
            range(cents >= 0 && cents <= 1000);
        }
        tariffs[firm] = new Tariff(start, day, night, idle);
    }

    int book(int socket, int card, int from, int minutes) {
        there(socket, sockets.size());
        there(card, cards.size());
        range(from >= now && from <= 20000 && minutes >= 15 && minutes <= 600);
        state(cards.get(card).good);
        List<Booking> bookings = sockets.get(socket).bookings;
        for (Booking other : bookings) {
            for (int minute = from; minute < from + minutes; minute++) {
                state(minute < other.from || minute >= other.to);
            }
        }
        Booking made = new Booking();
        made.card = card;
        made.from = from;
        made.to = from + minutes;
        bookings.add(made);
        return bookings.size();
    }

    int plug(int socket, int car, int card) {
        there(socket, sockets.size());
        there(car, cars.size());
        there(card, cards.size());
        state(sessions.size() < 40);
        Socket place = sockets.get(socket);
        if (place.faulty) {
            return -1;
        }
        if (running().stream().anyMatch(s -> s.socket == socket)) {
            return -2;
        }
        if (!cards.get(card).good) {
            return -3;
        }
        if (place.down && !list.contains(card)) {
            return -3;
        }
        if (place.bookings.stream().anyMatch(b -> b.from <= now && b.card != card)) {
            return -4;
        }
        if (running().stream().anyMatch(s -> s.car == car)) {
            return -5;
        }
        place.bookings.removeIf(b -> b.from <= now && b.card == card);
        Session made = new Session();
        made.number = sessions.size();
        made.socket = socket;
        made.car = car;
        made.card = card;
        made.tariff = tariffs[place.firm];
        made.mostFirst = 1400;
        sessions.add(made);
        return made.number;
    }

    private List<Session> running() {
        return sessions.stream().filter(s -> !s.unplugged).toList();
    }

    private List<Value> waitingOf(int session) {
        Socket place = sockets.get(sessions.get(session).socket);
        return place.waiting.stream().filter(v -> v.session == session).toList();
    }

    int unplug(int session) {
        there(session, sessions.size());
        Session one = sessions.get(session);
        state(!one.unplugged);
        one.unplugged = true;
        billIfDue(one);
        return waitingOf(session).size();
    }

    private void billIfDue(Session one) {
        if (!one.unplugged || one.billed >= 0 || !waitingOf(one.number).isEmpty()) {
            return;
        }
        one.billed = bill(one.number);
        cards.get(one.card).owed += one.billed;
        int from = cards.get(one.card).firm;
        int to = sockets.get(one.socket).firm;
        if (from != to) {
            owedByFirm[from][to] += one.billed * 95L / 100;
        }
    }

    int pass(int minutes) {
        range(minutes >= 1 && minutes <= 120);
        state(now + minutes <= 20000);
        for (int i = 0; i < minutes; i++) {
            passOne();
        }
        return now;
    }

    private void passOne() {
        int[] powers = powers(false);
        int sum = 0;
        for (Session one : running()) {
            Car car = cars.get(one.car);
            boolean full = car.charge == car.capacity;
            one.power = powers[one.number];
            sum += one.power;
            car.charge += one.power;
            one.energy += one.power;
            Value value = new Value(one.number, now, one.energy, full);
            Socket place = sockets.get(one.socket);
            (place.down ? place.waiting : one.heard).add(value);
        }
        if (sum > settings[0] + settings[1]) {
            overloads++;
        }
        for (Socket place : sockets) {
            place.minutesDown++;
            for (Booking booking : place.bookings) {
                booking.minutesHeld += booking.from <= now ? 1 : 0;
            }
            place.bookings.removeIf(b -> b.minutesHeld == 15);
        }
        now++;
        if (now % 1440 == 0) {
            list = new ArrayList<>();
            for (int i = 0; i < cards.size(); i++) {
                if (cards.get(i).good) {
                    list.add(i);
                }
            }
        }
    }

    private int bound(Session one) {
        Car car = cars.get(one.car);
        Socket place = sockets.get(one.socket);
        if (place.faulty) {
            return 0;
        }
        long wants = car.power;
        if (5L * car.charge >= 4L * car.capacity) {
            wants = wants / 2;
        }
        if (settings[2] < 0) {
            int below = -settings[2];
            wants = wants * (100 - below) / 100;
        }
        return (int) Math.min(Math.min(wants, car.capacity - car.charge), place.power);
    }

    /** By the numbers of the sessions. */
    private int[] powers(boolean isOneByOne) {
        int[] powers = new int[sessions.size()];
        int left = settings[0] + settings[1];
        List<Session> others = new ArrayList<>();
        for (Session one : running()) {
            Socket place = sockets.get(one.socket);
            if (place.down) {
                int most = place.minutesDown < 5 ? one.mostFirst : 1400;
                powers[one.number] = Math.min(bound(one), most);
                left -= powers[one.number];
            } else {
                others.add(one);
            }
        }
        // sorted is stable: of one rank by numbers
        Comparator<Session> byRank = Comparator.comparing(s -> -cards.get(s.card).rank);
        List<Session> sorted = others.stream().sorted(byRank).toList();
        List<Session> served = new ArrayList<>();
        for (Session one : sorted) {
            if (bound(one) >= 1400 && left >= 1400) {
                powers[one.number] = 1400;
                left -= 1400;
                served.add(one);
            }
        }
        for (Session one : sorted) {
            if (bound(one) > 0 && bound(one) < 1400 && left >= bound(one)) {
                powers[one.number] = bound(one);
                left -= bound(one);
            }
        }
        served.sort(Comparator.comparing(s -> s.number));
        if (isOneByOne) {
            giveOneByOne(powers, served, left);
        } else {
            giveToALevel(powers, served, left);
        }
        return powers;
    }

    private void giveOneByOne(int[] powers, List<Session> served, int watts) {
        int[] bounds = new int[powers.length];
        served.forEach(s -> bounds[s.number] = bound(s));
        for (int i = 0; i < watts; i++) {
            int least = -1;
            for (Session one : served) {
                boolean takes = powers[one.number] < bounds[one.number];
                if (takes && (least < 0 || powers[one.number] < powers[least])) {
                    least = one.number;
                }
            }
            if (least < 0) {
                return;
            }
            powers[least]++;
        }
    }

    /** Finds the greatest level to which all can be filled, by halving. */
    private void giveToALevel(int[] powers, List<Session> served, int watts) {
        int low = 1400;
        int high = 50001;
        while (high - low > 1) {
            int middle = (low + high) / 2;
            if (missing(served, middle) <= watts) {
                low = middle;
            } else {
                high = middle;
            }
        }
        int left = watts - missing(served, low);
        for (Session one : served) {
            powers[one.number] = Math.min(bound(one), low);
            if (bound(one) > low && left > 0) {
                powers[one.number]++;
                left--;
            }
        }
    }

    private int missing(List<Session> served, int level) {
        return served.stream().mapToInt(s -> Math.min(bound(s), level) - 1400).sum();
    }

    int of(int session, int what) {
        there(session, sessions.size());
        range(what >= 0 && what <= 6);
        Session one = sessions.get(session);
        int waiting = waitingOf(session).size();
        int state = one.billed >= 0 ? 3 : one.unplugged ? 2 : 1;
        int heard = one.heard.size();
        return new int[] {one.power, one.energy, heard + waiting, heard, state, one.car, one.socket}[what];
    }

    int charge(int car) {
        there(car, cars.size());
        return cars.get(car).charge;
    }

    int power(int session) {
        there(session, sessions.size());
        return powers(false)[session];
    }

    int powerAnew(int session) {
        there(session, sessions.size());
        return powers(true)[session];
    }

    int overloads() {
        return overloads;
    }

    int bill(int session) {
        there(session, sessions.size());
        return billOf(sessions.get(session).tariff, sessions.get(session).heard);
    }

    int billAnew(int session) {
        there(session, sessions.size());
        List<Value> all = new ArrayList<>(sessions.get(session).heard);
        all.addAll(waitingOf(session));
        return billOf(sessions.get(session).tariff, all);
    }

    private static int billOf(Tariff tariff, List<Value> values) {
        long day = 0;
        long night = 0;
        int idle = 0;
        int ahead = 0;
        for (Value value : values) {
            int more = value.energy - ahead;
            ahead = value.energy;
            int hour = value.minute / 60 % 24;
            if (hour >= 6 && hour <= 21) {
                day += more;
            } else {
                night += more;
            }
            idle += more == 0 && value.full ? 1 : 0;
        }
        long cents = tariff.start + day * tariff.day / 60000 + night * tariff.night / 60000;
        for (int i = 10; i < idle; i++) {
            cents += tariff.idle;
        }
        return (int) cents;
    }

    int dispute(int session, int hundredths) {
        there(session, sessions.size());
        range(hundredths >= 1 && hundredths <= 100);
        Session one = sessions.get(session);
        state(one.billed >= 0 && !one.disputed);
        one.disputed = true;
        int off = (int) (one.billed * (long) hundredths / 100);
        cards.get(one.card).owed -= off;
        int from = cards.get(one.card).firm;
        int to = sockets.get(one.socket).firm;
        if (from != to) {
            owedByFirm[from][to] -= off * 95L / 100;
        }
        return off;
    }

    int owes(int card) {
        there(card, cards.size());
        return cards.get(card).owed;
    }

    int account(int firm) {
        there(firm, 3);
        int sum = cards.stream().filter(c -> c.firm == firm).mapToInt(c -> c.owed).sum();
        for (int other = 0; other < 3; other++) {
            sum += owedByFirm[other][firm] - owedByFirm[firm][other];
        }
        return sum;
    }
}
