import java.util.ArrayList;
import java.util.Arrays;

/** A yard where cars drink from the grid, as ../shared/DOC.md tells it in its promises. */
public final class ChargeYard {
    public static final int FAULT = -1, TAKEN = -2, CARD = -3, BOOKED = -4, AWAY = -5;

    private static final int FIRMS = 3;
    private static final int MOST_SOCKETS = 8;
    private static final int MOST_CARS = 12;
    private static final int MOST_CARDS = 12;
    private static final int MOST_SESSIONS = 40;
    private static final int MOST_RANK = 3;
    private static final int MOST_POWER = 50000;
    private static final int MOST_CAPACITY = 6000000;
    private static final int MOST_LIMIT = 200000;
    private static final int MOST_SUN = 100000;
    private static final int MOST_DEGREES = 50;
    private static final int MOST_PRICE = 1000;
    private static final int LAST_MINUTE = 20000;
    private static final int MOST_PASS = 120;
    private static final int DAY = 1440;
    private static final int DAY_PRICE_FROM = 360;
    private static final int DAY_PRICE_TO = 1320;
    private static final int KILOWATT_HOUR = 60000;
    private static final int FREE_IDLE = 10;
    private static final int LEAST = 1400;
    private static final int DOWN_GRACE = 5;
    private static final int BOOKING_GRACE = 15;
    private static final int MOST_BOOKING = 600;
    private static final int HUNDRED = 100;
    private static final int SETTLED = 95;
    private static final int FIRST_ROW = 128;

    private final ArrayList<Firm> firms = new ArrayList<>();
    private final ArrayList<Socket> sockets = new ArrayList<>();
    private final ArrayList<Car> cars = new ArrayList<>();
    private final ArrayList<Card> cards = new ArrayList<>();
    private final ArrayList<Session> sessions = new ArrayList<>();
    /** The sessions that go on, by their numbers. */
    private final ArrayList<Session> running = new ArrayList<>();
    private int minute = 0;
    private int limit = 10000;
    private int sun = 0;
    private int degrees = 20;
    private int overloadMinutes = 0;

    /** Never changed: a session keeps the one that it began with. */
    private static final class Tariff {
        final int start;
        final int byDay;
        final int byNight;
        final int idling;

        Tariff(int start, int byDay, int byNight, int idling) {
            this.start = start;
            this.byDay = byDay;
            this.byNight = byNight;
            this.idling = idling;
        }
    }

    private static final class Firm {
        Tariff prices = new Tariff(0, 0, 0, 0);
        /** What it is owed, less what it owes. */
        int balance = 0;
    }

    private static final class Socket {
        final int number;
        final Firm firm;
        final int most;
        boolean isFaulty = false;
        boolean isUp = true;
        int downSince = 0;
        /** Null while nothing is plugged in. */
        Session session = null;
        /** Those that hold or will. */
        final ArrayList<Booking> bookings = new ArrayList<>();

        Socket(int number, Firm firm, int most) {
            this.number = number;
            this.firm = firm;
            this.most = most;
        }
    }

    private static final class Car {
        final int number;
        final int capacity;
        final int most;
        int holds;
        boolean isPlugged = false;

        Car(int number, int capacity, int holds, int most) {
            this.number = number;
            this.capacity = capacity;
            this.holds = holds;
            this.most = most;
        }

        boolean isFull() {
            return holds >= capacity;
        }

        int wants(int degrees) {
            boolean isSlow = 10 * holds >= 8 * capacity;
            int wanted = isSlow ? most / 2 : most;
            if (degrees < 0) {
                wanted = wanted * (HUNDRED + degrees) / HUNDRED;
            }
            return Math.min(wanted, capacity - holds);
        }
    }

    private static final class Card {
        final Firm firm;
        final int rank;
        boolean isGood = true;
        /** Whether it is in the list of the day. */
        boolean isListed = false;
        int debt = 0;

        Card(Firm firm, int rank) {
            this.firm = firm;
            this.rank = rank;
        }
    }

    private static final class Booking {
        final Card holder;
        final int from;
        /** The first minute that it has no more. */
        final int to;

        Booking(Card holder, int from, int to) {
            this.holder = holder;
            this.from = from;
            this.to = to;
        }

        boolean holdsAt(int minute) {
            return minute >= from && !isLateAt(minute);
        }

        boolean isLateAt(int minute) {
            return minute - from >= BOOKING_GRACE;
        }
    }

    /** What values come to, taken in their order one by one. */
    private static final class Tally {
        int energy = 0;
        int dayEnergy = 0;
        int nightEnergy = 0;
        int idleMinutes = 0;

        void take(int minute, int energyThen, boolean wasFull) {
            int gain = energyThen - energy;
            int ofDay = minute % DAY;
            if (ofDay >= DAY_PRICE_FROM && ofDay < DAY_PRICE_TO) {
                dayEnergy += gain;
            } else {
                nightEnergy += gain;
            }
            if (gain <= 0 && wasFull) {
                idleMinutes++;
            }
            energy = energyThen;
        }

        int cents(Tariff prices) {
            // an energy times a price is more than an int holds
            long byDay = (long) dayEnergy * prices.byDay / KILOWATT_HOUR;
            long byNight = (long) nightEnergy * prices.byNight / KILOWATT_HOUR;
            long idling = (long) Math.max(0, idleMinutes - FREE_IDLE) * prices.idling;
            return (int) (prices.start + byDay + byNight + idling);
        }
    }

    /** The signed values of one session: one a minute from its first minute on. */
    private static final class Values {
        final int firstMinute;
        /** Twice the energy, and 1 more if the car was full: one row is half the room of two. */
        int[] row = new int[FIRST_ROW];
        int made = 0;
        int heard = 0;
        final Tally ofHeard = new Tally();

        Values(int firstMinute) {
            this.firstMinute = firstMinute;
        }

        void make(int energy, boolean wasFull) {
            if (made >= row.length) {
                row = Arrays.copyOf(row, Math.min(LAST_MINUTE, 2 * row.length));
            }
            if (made < row.length) {
                row[made] = 2 * energy + (wasFull ? 1 : 0);
                made++;
            }
        }

        /** Answers how many are heard by this. */
        int hearAll() {
            int news = made - heard;
            takeInto(ofHeard, heard);
            heard = made;
            return news;
        }

        Tally ofAll() {
            Tally anew = new Tally();
            takeInto(anew, 0);
            return anew;
        }

        private void takeInto(Tally tally, int from) {
            for (int i = Math.max(0, from); i < made && i < row.length; i++) {
                tally.take(firstMinute + i, row[i] / 2, row[i] % 2 == 1);
            }
        }
    }

    private static final class Session {
        final Socket socket;
        final Car car;
        final Card card;
        final Tariff prices;
        final Values values;
        int energy = 0;
        /** Its power in its latest minute. */
        int latest = 0;
        /** Its power in the latest minute ahead of the link's going down. */
        int latestHeard = 0;
        boolean isBegunDown;
        boolean isUnplugged = false;
        boolean isBilled = false;
        boolean isDisputed = false;
        /** What these two say is of no use but while powers are being found. */
        int bound = 0;
        int flow = 0;

        Session(Socket socket, Car car, Card card, int minute) {
            this.socket = socket;
            this.car = car;
            this.card = card;
            this.prices = socket.firm.prices;
            this.values = new Values(minute);
            this.isBegunDown = !socket.isUp;
        }

        int boundIn(int degrees) {
            return socket.isFaulty ? 0 : Math.min(car.wants(degrees), socket.most);
        }

        int mostWhileDown(int minute) {
            boolean isEarly = minute - socket.downSince < DOWN_GRACE;
            return isEarly && !isBegunDown ? latestHeard : LEAST;
        }

        boolean takesMore() {
            return socket.isUp && flow >= LEAST && flow < bound;
        }

        boolean isOfTwoFirms() {
            return socket.firm != card.firm;
        }

        int billHeard() {
            return values.ofHeard.cents(prices);
        }

        int billAll() {
            return values.ofAll().cents(prices);
        }

        /** 1 while it goes on, 2 unplugged, 3 billed. */
        int state() {
            if (isBilled) {
                return 3;
            }
            return isUnplugged ? 2 : 1;
        }
    }

    public ChargeYard() {
        for (int i = 0; i < FIRMS; i++) {
            firms.add(new Firm());
        }
    }

    // ---- the yard

    public int socket(int firm, int power)
            throws IndexOutOfBoundsException, IllegalArgumentException, IllegalStateException {
        Firm owner = firmAt(firm);
        needWithin(power, LEAST, MOST_POWER);
        needRoom(sockets.size(), MOST_SOCKETS);
        Socket added = new Socket(sockets.size(), owner, power);
        sockets.add(added);
        return added.number;
    }

    public int car(int capacity, int charge, int power) throws IllegalArgumentException, IllegalStateException {
        needWithin(capacity, 1, MOST_CAPACITY);
        needWithin(charge, 0, capacity);
        needWithin(power, 1, MOST_POWER);
        needRoom(cars.size(), MOST_CARS);
        Car added = new Car(cars.size(), capacity, charge, power);
        cars.add(added);
        return added.number;
    }

    public int card(int firm, int rank)
            throws IndexOutOfBoundsException, IllegalArgumentException, IllegalStateException {
        Firm issuer = firmAt(firm);
        needWithin(rank, 0, MOST_RANK);
        needRoom(cards.size(), MOST_CARDS);
        cards.add(new Card(issuer, rank));
        return cards.size() - 1;
    }

    public boolean good(int card, boolean is) throws IndexOutOfBoundsException {
        Card one = cardAt(card);
        boolean was = one.isGood;
        one.isGood = is;
        return was;
    }

    public int set(int what, int value) throws IllegalArgumentException {
        if (what == 0) {
            return setLimit(value);
        }
        if (what == 1) {
            return setSun(value);
        }
        needWithin(what, 2, 2);
        return setDegrees(value);
    }

    public boolean fault(int socket, boolean is) throws IndexOutOfBoundsException {
        Socket one = socketAt(socket);
        boolean was = one.isFaulty;
        one.isFaulty = is;
        return was;
    }

    public int link(int socket, boolean isUp) throws IndexOutOfBoundsException {
        Socket one = socketAt(socket);
        if (one.isUp == isUp) {
            return 0;
        }
        one.isUp = isUp;
        if (isUp) {
            return hearWaiting(one);
        }
        goDown(one);
        return 0;
    }

    public void tariff(int firm, int start, int day, int night, int idle)
            throws IndexOutOfBoundsException, IllegalArgumentException {
        Firm one = firmAt(firm);
        needWithin(start, 0, MOST_PRICE);
        needWithin(day, 0, MOST_PRICE);
        needWithin(night, 0, MOST_PRICE);
        needWithin(idle, 0, MOST_PRICE);
        one.prices = new Tariff(start, day, night, idle);
    }

    // ---- bookings, sessions

    public int book(int socket, int card, int from, int minutes)
            throws IndexOutOfBoundsException, IllegalArgumentException, IllegalStateException {
        Socket place = socketAt(socket);
        Card holder = cardAt(card);
        needWithin(from, minute, LAST_MINUTE);
        needWithin(minutes, BOOKING_GRACE, MOST_BOOKING);
        int to = from + minutes;
        if (!holder.isGood || isBookedWithin(place, from, to)) {
            throw new IllegalStateException("the card is not good, or the socket is booked then");
        }
        place.bookings.add(new Booking(holder, from, to));
        return place.bookings.size();
    }

    public int plug(int socket, int car, int card) throws IndexOutOfBoundsException, IllegalStateException {
        Socket place = socketAt(socket);
        Car guest = carAt(car);
        Card payer = cardAt(card);
        needRoom(sessions.size(), MOST_SESSIONS);
        int refusal = refusalOf(place, guest, payer);
        if (refusal != 0) {
            return refusal;
        }
        begin(new Session(place, guest, payer, minute));
        return sessions.size() - 1;
    }

    public int unplug(int session) throws IndexOutOfBoundsException, IllegalStateException {
        Session one = sessionAt(session);
        if (one.isUnplugged) {
            throw new IllegalStateException("it is unplugged");
        }
        one.isUnplugged = true;
        one.car.isPlugged = false;
        one.socket.session = null;
        leaveRunning(one);
        settleIfDue(one);
        return one.values.made - one.values.heard;
    }

    public int pass(int minutes) throws IllegalArgumentException, IllegalStateException {
        needWithin(minutes, 1, MOST_PASS);
        if (minute + minutes > LAST_MINUTE) {
            throw new IllegalStateException("there are no minutes above 20000");
        }
        for (int i = 0; i < minutes; i++) {
            passMinute();
        }
        // no minute looks at bookings, so the late ones may go behind the last
        dropLateBookings();
        return minute;
    }

    // ---- what there is

    public int of(int session, int what) throws IndexOutOfBoundsException, IllegalArgumentException {
        Session one = sessionAt(session);
        switch (what) {
            case 0:
                return one.latest;
            case 1:
                return one.energy;
            case 2:
                return one.values.made;
            case 3:
                return one.values.heard;
            case 4:
                return one.state();
            case 5:
                return one.car.number;
            case 6:
                return one.socket.number;
            default:
                throw new IllegalArgumentException("what is out of its range");
        }
    }

    public int charge(int car) throws IndexOutOfBoundsException {
        return carAt(car).holds;
    }

    public int power(int session) throws IndexOutOfBoundsException {
        Session one = sessionAt(session);
        if (one.isUnplugged) {
            return 0;
        }
        shareByLevels(serveFirst());
        return one.flow;
    }

    public int powerAnew(int session) throws IndexOutOfBoundsException {
        Session one = sessionAt(session);
        if (one.isUnplugged) {
            return 0;
        }
        shareWattByWatt(serveFirst());
        return one.flow;
    }

    public int overloads() {
        return overloadMinutes;
    }

    public int bill(int session) throws IndexOutOfBoundsException {
        return sessionAt(session).billHeard();
    }

    public int billAnew(int session) throws IndexOutOfBoundsException {
        return sessionAt(session).billAll();
    }

    public int dispute(int session, int hundredths)
            throws IndexOutOfBoundsException, IllegalArgumentException, IllegalStateException {
        Session one = sessionAt(session);
        needWithin(hundredths, 1, HUNDRED);
        if (!one.isBilled || one.isDisputed) {
            throw new IllegalStateException("it is not billed, or was disputed");
        }
        one.isDisputed = true;
        int off = partOf(one.billHeard(), hundredths);
        owe(one, -off, -partOf(off, SETTLED));
        return off;
    }

    public int owes(int card) throws IndexOutOfBoundsException {
        return cardAt(card).debt;
    }

    public int account(int firm) throws IndexOutOfBoundsException {
        return firmAt(firm).balance;
    }

    // ---- what is asked of arguments

    private Firm firmAt(int number) {
        if (number < 0 || number >= firms.size()) {
            throw new IndexOutOfBoundsException("no such firm");
        }
        return firms.get(number);
    }

    private Socket socketAt(int number) {
        if (number < 0 || number >= sockets.size()) {
            throw new IndexOutOfBoundsException("no such socket");
        }
        return sockets.get(number);
    }

    private Car carAt(int number) {
        if (number < 0 || number >= cars.size()) {
            throw new IndexOutOfBoundsException("no such car");
        }
        return cars.get(number);
    }

    private Card cardAt(int number) {
        if (number < 0 || number >= cards.size()) {
            throw new IndexOutOfBoundsException("no such card");
        }
        return cards.get(number);
    }

    private Session sessionAt(int number) {
        if (number < 0 || number >= sessions.size()) {
            throw new IndexOutOfBoundsException("no such session");
        }
        return sessions.get(number);
    }

    private static void needWithin(int value, int least, int most) {
        if (value < least || value > most) {
            throw new IllegalArgumentException("an argument is out of its range");
        }
    }

    private static void needRoom(int count, int most) {
        if (count >= most) {
            throw new IllegalStateException("there are as many as there may be");
        }
    }

    // ---- settings

    private int setLimit(int value) {
        needWithin(value, 0, MOST_LIMIT);
        int before = limit;
        limit = value;
        return before;
    }

    private int setSun(int value) {
        needWithin(value, 0, MOST_SUN);
        int before = sun;
        sun = value;
        return before;
    }

    private int setDegrees(int value) {
        needWithin(value, -MOST_DEGREES, MOST_DEGREES);
        int before = degrees;
        degrees = value;
        return before;
    }

    // ---- links

    private void goDown(Socket socket) {
        socket.downSince = minute;
        Session there = socket.session;
        if (there != null) {
            there.latestHeard = there.latest;
            there.isBegunDown = false;
        }
    }

    private int hearWaiting(Socket socket) {
        int heard = 0;
        for (int i = 0; i < sessions.size(); i++) {
            Session one = sessions.get(i);
            if (one.socket == socket) {
                heard += one.values.hearAll();
                settleIfDue(one);
            }
        }
        return heard;
    }

    // ---- bookings

    private static boolean isBookedWithin(Socket socket, int from, int to) {
        for (int i = 0; i < socket.bookings.size(); i++) {
            Booking other = socket.bookings.get(i);
            if (from < other.to && other.from < to) {
                return true;
            }
        }
        return false;
    }

    private boolean isBookedByAnother(Socket socket, Card card) {
        for (int i = 0; i < socket.bookings.size(); i++) {
            Booking one = socket.bookings.get(i);
            if (one.holder != card && one.holdsAt(minute)) {
                return true;
            }
        }
        return false;
    }

    private void useBooking(Socket socket, Card card) {
        for (int i = socket.bookings.size() - 1; i >= 0; i--) {
            Booking one = socket.bookings.get(i);
            if (one.holder == card && one.holdsAt(minute)) {
                socket.bookings.remove(i);
            }
        }
    }

    private void dropLateBookings() {
        for (int i = 0; i < sockets.size(); i++) {
            ArrayList<Booking> bookings = sockets.get(i).bookings;
            for (int k = bookings.size() - 1; k >= 0; k--) {
                if (bookings.get(k).isLateAt(minute)) {
                    bookings.remove(k);
                }
            }
        }
    }

    // ---- sessions

    /** 0 if it is not refused. */
    private int refusalOf(Socket socket, Car car, Card card) {
        if (socket.isFaulty) {
            return FAULT;
        }
        if (socket.session != null) {
            return TAKEN;
        }
        if (!card.isGood || (!socket.isUp && !card.isListed)) {
            return CARD;
        }
        if (isBookedByAnother(socket, card)) {
            return BOOKED;
        }
        return car.isPlugged ? AWAY : 0;
    }

    private void begin(Session session) {
        session.socket.session = session;
        session.car.isPlugged = true;
        useBooking(session.socket, session.card);
        sessions.add(session);
        running.add(session);
    }

    private void leaveRunning(Session session) {
        for (int i = running.size() - 1; i >= 0; i--) {
            if (running.get(i) == session) {
                running.remove(i);
            }
        }
    }

    // ---- powers

    /** Gives what goes ahead of the even parts; answers what is left, perhaps below 0. */
    private int serveFirst() {
        int left = limit + sun;
        for (int i = 0; i < running.size(); i++) {
            Session one = running.get(i);
            one.bound = one.boundIn(degrees);
            one.flow = one.socket.isUp ? 0 : Math.min(one.bound, one.mostWhileDown(minute));
            left -= one.flow;
        }
        left = serveRanks(left, true);
        return serveRanks(left, false);
    }

    private int serveRanks(int left, boolean isOfBig) {
        int rest = left;
        for (int rank = MOST_RANK; rank >= 0; rank--) {
            for (int i = 0; i < running.size(); i++) {
                Session one = running.get(i);
                int need = Math.min(one.bound, LEAST);
                boolean isTurn = one.card.rank == rank && (one.bound >= LEAST) == isOfBig;
                if (isTurn && one.socket.isUp && need <= rest) {
                    one.flow = need;
                    rest -= need;
                }
            }
        }
        return rest;
    }

    /** The same as watt by watt: all who take more have the same at any time, so they rise together. */
    private void shareByLevels(int left) {
        int rest = left;
        // each round fills one session at least, but for the last two
        for (int round = 0; round < MOST_SOCKETS + 2 && rest > 0; round++) {
            int takers = 0;
            int rise = rest;
            for (int i = 0; i < running.size(); i++) {
                Session one = running.get(i);
                if (one.takesMore()) {
                    takers++;
                    rise = Math.min(rise, one.bound - one.flow);
                }
            }
            if (takers == 0) {
                return;
            }
            if (rest < takers) {
                raise(rest, 1);
                return;
            }
            rise = Math.min(rise, rest / takers);
            raise(takers, rise);
            rest -= takers * rise;
        }
    }

    private void raise(int howMany, int rise) {
        int rest = howMany;
        for (int i = 0; i < running.size() && rest > 0; i++) {
            Session one = running.get(i);
            if (one.takesMore()) {
                one.flow += rise;
                rest--;
            }
        }
    }

    private void shareWattByWatt(int left) {
        int rest = left;
        for (int level = LEAST; level < MOST_POWER && rest > 0; level++) {
            boolean isGiven = false;
            for (int i = 0; i < running.size() && rest > 0; i++) {
                Session one = running.get(i);
                if (one.flow == level && one.takesMore()) {
                    one.flow++;
                    rest--;
                    isGiven = true;
                }
            }
            if (!isGiven) {
                return;
            }
        }
    }

    // ---- a minute

    private void passMinute() {
        shareByLevels(serveFirst());
        int all = 0;
        for (int i = 0; i < running.size(); i++) {
            Session one = running.get(i);
            all += one.flow;
            letFlow(one);
        }
        if (all > limit + sun) {
            overloadMinutes++;
        }
        minute++;
        if (minute % DAY == 0) {
            listCards();
        }
    }

    private static void letFlow(Session session) {
        boolean wasFull = session.car.isFull();
        session.latest = session.flow;
        session.car.holds += session.flow;
        session.energy += session.flow;
        session.values.make(session.energy, wasFull);
        if (session.socket.isUp) {
            session.values.hearAll();
        }
    }

    private void listCards() {
        for (int i = 0; i < cards.size(); i++) {
            Card one = cards.get(i);
            one.isListed = one.isGood;
        }
    }

    // ---- bills

    private static void settleIfDue(Session session) {
        boolean isHeard = session.values.heard >= session.values.made;
        if (session.isUnplugged && isHeard && !session.isBilled) {
            session.isBilled = true;
            int cents = session.billHeard();
            owe(session, cents, partOf(cents, SETTLED));
        }
    }

    /** The card owes its firm so many cents more, and that the socket's firm its share, if it is another. */
    private static void owe(Session session, int cents, int share) {
        session.card.debt += cents;
        session.card.firm.balance += cents;
        if (session.isOfTwoFirms()) {
            session.card.firm.balance -= share;
            session.socket.firm.balance += share;
        }
    }

    private static int partOf(int cents, int hundredths) {
        return (int) ((long) cents * hundredths / HUNDRED);
    }
}
