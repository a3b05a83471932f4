import java.util.NoSuchElementException;

/** Ferries between islands: one object is one archipelago, with its own clock and accounts. */
public final class ArchipelagoFerries {
    public static final int NONE = -1;
    public static final int PLANNED = 0, CANCELLED = 1, SAILED = 2;
    public static final int WALKER = 0, CAR = 1, VAN = 2, TRUCK = 3;
    public static final int FARES = 0, STATE = 1, FUEL = 2;

    private static final int ISLANDS = 6;
    private static final int PEOPLE = 10;
    private static final int MOST_SHIPS = 4;
    private static final int MOST_LANES = 4;
    private static final int MOST_CREWS = 6;
    private static final int MOST_SAILINGS = 24;
    private static final int MOST_BOOKINGS = 40;

    private static final int LAST_HOUR = 10000;
    private static final int LAST_NOW = 9000;
    private static final int LAST_DAY = 500;
    private static final int HOURS_OF_DAY = 24;
    private static final int HOURS_OF_CREW = 12;
    private static final int TANK = 1000;
    private static final int PRICE_OF_FUEL = 3;
    private static final int MOST_DANGEROUS = 2;
    private static final int MOST_UNEVEN = 20;
    private static final int MOST_TIMES_OVER = 2;

    private static final int STORM = 0, STRIKE = 1, OUT = 2;

    private static final int NOT_THERE = 1, TOO_SHALLOW = 2, IN_STORM = 3, ON_STRIKE = 4, WITHOUT_CREW = 5,
            WITHOUT_FUEL = 6, CALLED_OFF = 7;

    private final Ship[] ships = new Ship[MOST_SHIPS];
    private final Crew[] crews = new Crew[MOST_CREWS];
    private final Sailing[] sailings = new Sailing[MOST_SAILINGS];
    private final Booking[] bookings = new Booking[MOST_BOOKINGS];
    private final int[] residences = new int[PEOPLE];
    private final int[] busEach = new int[ISLANDS];
    private final int[] busFirst = new int[ISLANDS];
    private final long[] accounts = new long[FUEL + 1];
    private final Span storm = new Span();
    private final Span strike = new Span();
    private final Deck deck = new Deck();
    private int shipCount = 0;
    private int crewCount = 0;
    private int sailingCount = 0;
    private int bookingCount = 0;
    private int hourNow = 0;

    public ArchipelagoFerries() {
        // All rows stand from the start, so that no call ever meets an empty one.
        for (int i = 0; i < MOST_SHIPS; i++) {
            ships[i] = new Ship();
        }
        for (int i = 0; i < MOST_CREWS; i++) {
            crews[i] = new Crew();
        }
        for (int i = 0; i < MOST_SAILINGS; i++) {
            sailings[i] = new Sailing();
        }
        for (int i = 0; i < MOST_BOOKINGS; i++) {
            bookings[i] = new Booking();
        }
        for (int i = 0; i < PEOPLE; i++) {
            residences[i] = NONE;
        }
    }

    // ---- islands, ships, crews

    public int ship(int home, int lanes, int length, int weight, int draught, int speed)
            throws IndexOutOfBoundsException, IllegalArgumentException, IllegalStateException {
        demandIndex(home, ISLANDS);
        demandArgument(isWithin(lanes, 1, MOST_LANES) && isWithin(length, 10, 100) && isWithin(weight, 1, 1000)
                && isWithin(draught, 1, 9) && isWithin(speed, 1, 40));
        demandState(shipCount < MOST_SHIPS);
        int number = shipCount;
        shipCount++;
        Ship added = knownShip(number);
        added.home = home;
        added.laneCount = lanes;
        added.laneLength = length;
        added.mostWeight = weight;
        added.draught = draught;
        added.speed = speed;
        return number;
    }

    public int fill(int ship, int amount)
            throws IndexOutOfBoundsException, IllegalArgumentException, IllegalStateException {
        Ship filled = knownShip(ship);
        demandArgument(isWithin(amount, 1, TANK));
        demandState(filled.tank + amount <= TANK);
        filled.tank += amount;
        accounts[FUEL] -= PRICE_OF_FUEL * amount;
        return filled.tank;
    }

    public int crew(int ship, int from, int to)
            throws IndexOutOfBoundsException, IllegalArgumentException, IllegalStateException {
        demandIndex(ship, shipCount);
        demandArgument(isWithin(from, 0, LAST_DAY) && isWithin(to, from, LAST_DAY));
        demandState(crewCount < MOST_CREWS);
        int number = crewCount;
        crewCount++;
        Crew added = knownCrew(number);
        added.ship = ship;
        added.days.tell(from, to);
        return number;
    }

    public int hours(int crew, int day) throws IndexOutOfBoundsException, IllegalArgumentException {
        demandIndex(crew, crewCount);
        demandArgument(isWithin(day, 0, LAST_DAY));
        return hoursSailed(crew, day);
    }

    public int depth(int island, int hour) throws IndexOutOfBoundsException, IllegalArgumentException {
        demandIndex(island, ISLANDS);
        demandArgument(isWithin(hour, 0, LAST_HOUR));
        return depthAt(island, hour);
    }

    public void hinder(int what, int ship, int from, int to)
            throws IndexOutOfBoundsException, IllegalArgumentException {
        Span told = spanFor(what, ship);
        demandArgument(isWithin(from, 0, LAST_HOUR) && isWithin(to, from, LAST_HOUR));
        told.tell(from, to);
    }

    public void bus(int island, int each, int first) throws IndexOutOfBoundsException, IllegalArgumentException {
        demandIndex(island, ISLANDS);
        demandArgument(isWithin(each, 1, 12) && isWithin(first, 0, each - 1));
        busEach[island] = each;
        busFirst[island] = first;
    }

    public int reside(int person, int island) throws IndexOutOfBoundsException {
        demandIndex(person, PEOPLE);
        if (island != NONE) {
            demandIndex(island, ISLANDS);
        }
        int before = residences[person];
        residences[person] = island;
        return before;
    }

    // ---- sailings

    public int plan(int ship, int to, int hour, int distance)
            throws IndexOutOfBoundsException, IllegalArgumentException, IllegalStateException {
        Ship planned = knownShip(ship);
        demandIndex(to, ISLANDS);
        int last = lastSailing(ship);
        // A ship without a sailing that counts has never left its home.
        int from = last == NONE ? planned.home : knownSailing(last).to;
        int freeFrom = last == NONE ? 0 : knownSailing(last).end;
        demandArgument(isWithin(hour, hourNow, LAST_HOUR) && isWithin(distance, 1, 400) && to != from);
        demandState(freeFrom <= hour && sailingCount < MOST_SAILINGS);
        return addSailing(ship, from, to, hour, distance);
    }

    public int cancel(int sailing) throws IndexOutOfBoundsException, IllegalStateException {
        Sailing cancelled = knownSailing(sailing);
        demandState(cancelled.status == PLANNED);
        return callOff(sailing, CALLED_OFF);
    }

    public int replace(int sailing, int ship) throws IndexOutOfBoundsException, IllegalStateException {
        Sailing old = knownSailing(sailing);
        Ship spare = knownShip(ship);
        demandState(old.status == CANCELLED && !old.isReplaced && isFree(ship)
                && whereWas(ship, hourNow) == old.from && !spare.out.has(hourNow)
                && sailingCount < MOST_SAILINGS);
        old.isReplaced = true;
        return addSailing(ship, old.from, old.to, hourNow, old.distance);
    }

    public int pass(int hours) throws IllegalArgumentException, IllegalStateException {
        demandArgument(isWithin(hours, 1, 48));
        demandState(hourNow + hours <= LAST_NOW);
        for (int i = 0; i < hours; i++) {
            for (int k = 0; k < sailingCount; k++) {
                lookAt(k);
            }
            hourNow++;
        }
        return hourNow;
    }

    public int now() {
        return hourNow;
    }

    public int state(int sailing) throws IndexOutOfBoundsException {
        Sailing asked = knownSailing(sailing);
        return asked.status + 10 * asked.reason;
    }

    public int ends(int sailing) throws IndexOutOfBoundsException {
        return knownSailing(sailing).end;
    }

    public int busAfter(int sailing) throws IndexOutOfBoundsException {
        Sailing asked = knownSailing(sailing);
        demandIndex(asked.to, ISLANDS);
        int each = busEach[asked.to];
        if (asked.status != SAILED || each < 1) {
            return NONE;
        }
        return Math.floorMod(busFirst[asked.to] - asked.end, each);
    }

    public int place(int ship) throws IndexOutOfBoundsException {
        demandIndex(ship, shipCount);
        return whereWas(ship, hourNow);
    }

    public int placeByLine(int ship, int hour) throws IndexOutOfBoundsException, IllegalArgumentException {
        demandIndex(ship, shipCount);
        demandArgument(isWithin(hour, 0, hourNow));
        return whereWas(ship, hour);
    }

    public int fuel(int ship) throws IndexOutOfBoundsException {
        return knownShip(ship).tank;
    }

    // ---- bookings

    public int book(int person, int sailing, int kind, int length, int weight, boolean isDangerous)
            throws IndexOutOfBoundsException, IllegalArgumentException, IllegalStateException {
        demandIndex(person, PEOPLE);
        Sailing booked = knownSailing(sailing);
        demandArgument(isBookable(kind, length, weight, isDangerous));
        demandState(booked.status == PLANNED && bookingCount < MOST_BOOKINGS);
        int number = bookingCount;
        bookingCount++;
        Booking added = knownBooking(number);
        added.sailing = sailing;
        added.kind = kind;
        added.length = length;
        added.weight = weight;
        added.isDangerous = isDangerous;
        added.isIslander = residences[person] == booked.from || residences[person] == booked.to;
        payFor(added, fareFor(kind) * booked.distance);
        return number;
    }

    public int sailingOf(int booking) throws IndexOutOfBoundsException {
        return knownBooking(booking).sailing;
    }

    public int lane(int booking) throws IndexOutOfBoundsException {
        return knownBooking(booking).lane;
    }

    public int paid(int booking) throws IndexOutOfBoundsException {
        return knownBooking(booking).paidByPerson;
    }

    public int taken(int sailing) throws IndexOutOfBoundsException {
        demandIndex(sailing, sailingCount);
        int count = 0;
        for (int i = 0; i < bookingCount; i++) {
            Booking booking = knownBooking(i);
            if (booking.sailing == sailing && booking.isOnBoard) {
                count++;
            }
        }
        return count;
    }

    public int list(int sailing) throws IndexOutOfBoundsException, java.util.NoSuchElementException {
        Sailing asked = knownSailing(sailing);
        if (asked.status != SAILED) {
            throw new NoSuchElementException();
        }
        return asked.lean;
    }

    public long account(int line) throws IllegalArgumentException {
        demandArgument(isWithin(line, FARES, FUEL));
        return accounts[line];
    }

    public long accountAnew(int line) throws IllegalArgumentException {
        demandArgument(line == FARES || line == STATE);
        long sum = 0;
        for (int i = 0; i < bookingCount; i++) {
            Booking booking = knownBooking(i);
            if (booking.sailing != NONE) {
                sum += line == FARES ? booking.paidByPerson : booking.paidByState;
            }
        }
        return sum;
    }

    // ---- what the calls demand

    private static boolean isWithin(int value, int least, int most) {
        return least <= value && value <= most;
    }

    private static void demandIndex(int index, int count) {
        if (index < 0 || index >= count) {
            throw new IndexOutOfBoundsException();
        }
    }

    private static void demandArgument(boolean isRight) {
        if (!isRight) {
            throw new IllegalArgumentException();
        }
    }

    private static void demandState(boolean isRight) {
        if (!isRight) {
            throw new IllegalStateException();
        }
    }

    private Ship knownShip(int ship) {
        demandIndex(ship, shipCount);
        return ships[ship];
    }

    private Crew knownCrew(int crew) {
        demandIndex(crew, crewCount);
        return crews[crew];
    }

    private Sailing knownSailing(int sailing) {
        demandIndex(sailing, sailingCount);
        return sailings[sailing];
    }

    private Booking knownBooking(int booking) {
        demandIndex(booking, bookingCount);
        return bookings[booking];
    }

    private static boolean isBookable(int kind, int length, int weight, boolean isDangerous) {
        if (kind == WALKER) {
            return length == 0 && weight == 0 && !isDangerous;
        }
        return isWithin(kind, CAR, TRUCK) && isWithin(length, 1, 40) && isWithin(weight, 1, 200);
    }

    private Span spanFor(int what, int ship) {
        if (what == OUT) {
            return knownShip(ship).out;
        }
        demandArgument(what == STORM || what == STRIKE);
        return what == STORM ? storm : strike;
    }

    // ---- where ships are, and when

    private static int depthAt(int island, int hour) {
        return 3 + Math.abs((hour + 2 * island) % 12 - 6);
    }

    // Those of a ship that are not cancelled follow one another in time as they do in number.
    private int lastSailing(int ship) {
        int last = NONE;
        for (int i = 0; i < sailingCount; i++) {
            Sailing sailing = knownSailing(i);
            if (sailing.ship == ship && sailing.status != CANCELLED) {
                last = i;
            }
        }
        return last;
    }

    private int whereWas(int ship, int hour) {
        int island = knownShip(ship).home;
        for (int i = 0; i < sailingCount; i++) {
            Sailing sailing = knownSailing(i);
            if (sailing.ship == ship && sailing.status == SAILED && sailing.hour <= hour) {
                island = hour < sailing.end ? NONE : sailing.to;
            }
        }
        return island;
    }

    private boolean isFree(int ship) {
        int last = lastSailing(ship);
        return last == NONE || knownSailing(last).status == SAILED && knownSailing(last).end <= hourNow;
    }

    private int addSailing(int ship, int from, int to, int hour, int distance) {
        int number = sailingCount;
        sailingCount++;
        Sailing added = knownSailing(number);
        added.ship = ship;
        added.from = from;
        added.to = to;
        added.hour = hour;
        added.distance = distance;
        added.end = hour + knownShip(ship).hoursFor(distance);
        return number;
    }

    // ---- when a sailing's hour comes

    private void lookAt(int number) {
        Sailing sailing = knownSailing(number);
        if (sailing.status != PLANNED || sailing.hour != hourNow) {
            return;
        }
        int reason = reasonAgainst(number);
        if (reason == 0) {
            setSail(number);
        } else {
            callOff(number, reason);
        }
    }

    private int reasonAgainst(int number) {
        Sailing sailing = knownSailing(number);
        Ship ship = knownShip(sailing.ship);
        if (whereWas(sailing.ship, sailing.hour) != sailing.from || ship.out.has(sailing.hour)) {
            return NOT_THERE;
        }
        if (depthAt(sailing.from, sailing.hour) < ship.draught || depthAt(sailing.to, sailing.end) < ship.draught) {
            return TOO_SHALLOW;
        }
        if (storm.has(sailing.hour)) {
            return IN_STORM;
        }
        if (strike.has(sailing.hour) && number % 2 == 1) {
            return ON_STRIKE;
        }
        if (crewFor(sailing) == NONE) {
            return WITHOUT_CREW;
        }
        return ship.tank < ship.burns(sailing.end - sailing.hour) ? WITHOUT_FUEL : 0;
    }

    private int crewFor(Sailing sailing) {
        int day = sailing.hour / HOURS_OF_DAY;
        int longest = HOURS_OF_CREW - (sailing.end - sailing.hour);
        for (int i = 0; i < crewCount; i++) {
            Crew crew = knownCrew(i);
            if (crew.ship == sailing.ship && crew.days.has(day) && hoursSailed(i, day) <= longest) {
                return i;
            }
        }
        return NONE;
    }

    private int hoursSailed(int crew, int day) {
        int sum = 0;
        for (int i = 0; i < sailingCount; i++) {
            Sailing sailing = knownSailing(i);
            if (sailing.crew == crew && sailing.hour / HOURS_OF_DAY == day) {
                sum += sailing.end - sailing.hour;
            }
        }
        return sum;
    }

    private int callOff(int number, int reason) {
        Sailing sailing = knownSailing(number);
        sailing.status = CANCELLED;
        sailing.reason = reason;
        return sendOver(number);
    }

    private void setSail(int number) {
        Sailing sailing = knownSailing(number);
        Ship ship = knownShip(sailing.ship);
        sailing.crew = crewFor(sailing);
        sailing.status = SAILED;
        ship.tank -= ship.burns(sailing.end - sailing.hour);
        deck.clear(ship);
        takeThose(number, true);
        takeThose(number, false);
        evenOut(number);
        sailing.lean = deck.lean;
        sendOver(number);
    }

    // ---- what a sailing takes

    private void takeThose(int number, boolean areIslanders) {
        for (int i = 0; i < bookingCount; i++) {
            Booking booking = knownBooking(i);
            if (booking.sailing == number && booking.isIslander == areIslanders) {
                deck.take(booking);
            }
        }
    }

    private void evenOut(int number) {
        for (int i = 0; i < bookingCount && Math.abs(deck.lean) > MOST_UNEVEN; i++) {
            putOffLast(number);
        }
    }

    private void putOffLast(int number) {
        int last = NONE;
        int lastTurn = NONE;
        for (int i = 0; i < bookingCount; i++) {
            Booking booking = knownBooking(i);
            if (booking.sailing == number && deck.isOnHeavierSide(booking) && booking.turn > lastTurn) {
                last = i;
                lastTurn = booking.turn;
            }
        }
        if (last != NONE) {
            deck.putOff(knownBooking(last));
        }
    }

    // ---- those that go over, and what is paid

    private int sendOver(int number) {
        int count = 0;
        for (int i = 0; i < bookingCount; i++) {
            Booking booking = knownBooking(i);
            if (booking.sailing == number && !booking.isOnBoard) {
                goOver(booking, nextLike(number));
                count++;
            }
        }
        return count;
    }

    private int nextLike(int number) {
        Sailing like = knownSailing(number);
        int next = NONE;
        int earliest = LAST_HOUR + 1;
        for (int i = 0; i < sailingCount; i++) {
            Sailing sailing = knownSailing(i);
            if (sailing.status == PLANNED && sailing.from == like.from && sailing.to == like.to
                    && sailing.hour < earliest) {
                next = i;
                earliest = sailing.hour;
            }
        }
        return next;
    }

    private void goOver(Booking booking, int next) {
        if (next == NONE || booking.timesOver >= MOST_TIMES_OVER) {
            payBack(booking);
        } else {
            booking.sailing = next;
            booking.timesOver++;
        }
    }

    private static int fareFor(int kind) {
        switch (kind) {
            case WALKER:
                return 2;
            case CAR:
                return 5;
            case VAN:
                return 8;
            default:
                return 20;
        }
    }

    private void payFor(Booking booking, int fare) {
        booking.paidByPerson = booking.isIslander ? fare / 2 : fare;
        booking.paidByState = fare - booking.paidByPerson;
        accounts[FARES] += booking.paidByPerson;
        accounts[STATE] += booking.paidByState;
    }

    private void payBack(Booking booking) {
        accounts[FARES] -= booking.paidByPerson;
        accounts[STATE] -= booking.paidByState;
        booking.paidByPerson = 0;
        booking.paidByState = 0;
        booking.sailing = NONE;
    }

    /** Hours or days from one to another one, both with them; none until they are told. */
    private static final class Span {
        private int first = 0;
        private int last = NONE;

        private void tell(int from, int to) {
            first = from;
            last = to;
        }

        private boolean has(int time) {
            return first <= time && time <= last;
        }
    }

    private static final class Ship {
        private int home = 0;
        private int laneCount = 0;
        private int laneLength = 0;
        private int mostWeight = 0;
        private int draught = 0;
        private int speed = 0;
        private int tank = 0;
        private final Span out = new Span();

        private int hoursFor(int distance) {
            return speed < 1 ? 0 : (distance + speed - 1) / speed;
        }

        private int burns(int hours) {
            return (int) ((float) hours * (float) speed * (float) speed / 100f);
        }
    }

    private static final class Crew {
        private int ship = NONE;
        private final Span days = new Span();
    }

    private static final class Sailing {
        private int ship = NONE;
        private int from = 0;
        private int to = 0;
        private int hour = 0;
        private int end = 0;
        private int distance = 0;
        private int status = PLANNED;
        private int reason = 0;
        private int crew = NONE;
        private int lean = 0;
        private boolean isReplaced = false;
    }

    private static final class Booking {
        private int sailing = NONE;
        private int kind = WALKER;
        private int length = 0;
        private int weight = 0;
        private int lane = NONE;
        private int turn = 0;
        private int timesOver = 0;
        private int paidByPerson = 0;
        private int paidByState = 0;
        private boolean isDangerous = false;
        private boolean isIslander = false;
        private boolean isOnBoard = false;
    }

    /** The lanes of the ship that is being loaded; one deck serves all sailings, one after the other. */
    private static final class Deck {
        private final int[] lengths = new int[MOST_LANES];
        private final boolean[] haveDangerous = new boolean[MOST_LANES];
        private int laneCount = 0;
        private int laneLength = 0;
        private int mostWeight = 0;
        private int weight = 0;
        private int dangerousCount = 0;
        private int turns = 0;
        // The weights on the left less those on the right.
        private int lean = 0;

        private void clear(Ship ship) {
            laneCount = ship.laneCount;
            laneLength = ship.laneLength;
            mostWeight = ship.mostWeight;
            weight = 0;
            dangerousCount = 0;
            turns = 0;
            lean = 0;
            for (int k = 0; k < MOST_LANES; k++) {
                lengths[k] = 0;
                haveDangerous[k] = false;
            }
        }

        private void take(Booking booking) {
            if (booking.kind == WALKER) {
                booking.isOnBoard = true;
                return;
            }
            int lane = bestLane(booking);
            if (lane >= 0 && lane < MOST_LANES) {
                put(booking, lane);
            }
        }

        private int bestLane(Booking booking) {
            int best = NONE;
            int least = 0;
            if (weight + booking.weight > mostWeight || booking.isDangerous && dangerousCount >= MOST_DANGEROUS) {
                return NONE;
            }
            for (int k = 0; k < laneCount && k < MOST_LANES; k++) {
                int uneven = Math.abs(lean + leanOf(k, booking.weight));
                boolean hasRoom = lengths[k] + booking.length <= laneLength;
                boolean isSafe = !booking.isDangerous || !isNearDangerous(k);
                if (hasRoom && isSafe && (best == NONE || uneven < least)) {
                    best = k;
                    least = uneven;
                }
            }
            return best;
        }

        private boolean isNearDangerous(int lane) {
            for (int k = Math.max(lane - 1, 0); k <= lane + 1 && k < MOST_LANES; k++) {
                if (haveDangerous[k]) {
                    return true;
                }
            }
            return false;
        }

        private void put(Booking booking, int lane) {
            if (lane < 0 || lane >= MOST_LANES) {
                return;
            }
            booking.isOnBoard = true;
            booking.lane = lane;
            booking.turn = turns;
            turns++;
            lengths[lane] += booking.length;
            weight += booking.weight;
            lean += leanOf(lane, booking.weight);
            if (booking.isDangerous) {
                haveDangerous[lane] = true;
                dangerousCount++;
            }
        }

        // Nothing is taken behind this, so the room in the lane need not be given back.
        private void putOff(Booking booking) {
            lean -= leanOf(booking.lane, booking.weight);
            booking.isOnBoard = false;
            booking.lane = NONE;
        }

        private boolean isOnHeavierSide(Booking booking) {
            int own = booking.lane == NONE ? 0 : leanOf(booking.lane, booking.weight);
            return own > 0 && lean > 0 || own < 0 && lean < 0;
        }

        private int leanOf(int lane, int load) {
            if (2 * lane < laneCount - 1) {
                return load;
            }
            return 2 * lane > laneCount - 1 ? -load : 0;
        }
    }
}
