import java.util.function.Supplier;

/**
 * The paragraph "Exceptions" and every "Throws" line of the promises. Each refused call is made on an object with a
 * twin: it throws just what is due, and leaves the object answering as the twin does, at once and when it goes on.
 */
public final class RefusedCallsTest {
    interface Use {
        long of(ArchipelagoFerries x);
    }

    /** Numbers that are none of 0 to 5, of 0 to 9, and so on: the nearest ones are told at each call. */
    private static final int[] FAR = {-1, -2, Integer.MIN_VALUE, Integer.MAX_VALUE};

    public static void main(String[] args) {
        worlds();
        noSuchIsland();
        noSuchShip();
        noSuchCrew();
        noSuchPerson();
        noSuchSailing();
        noSuchBooking();
        ship();
        fill();
        crew();
        hours();
        depth();
        hinder();
        bus();
        plan();
        cancel();
        replace();
        pass();
        placeByLine();
        book();
        list();
        accounts();
        Check.end();
    }

    private static void refused(String what, String exception, Supplier<ArchipelagoFerries> world, Use call) {
        ArchipelagoFerries x = world.get();
        Check.refused(what, exception, () -> call.of(x));
        Check.same(what + ", asked at once", Trace.asItIs(x), Trace.asItIs(world.get()));
        ArchipelagoFerries y = world.get();
        Check.refused(what + ", again", exception, () -> call.of(y));
        Check.same(what + ", gone on", Trace.whenItGoesOn(y), Trace.whenItGoesOn(world.get()));
    }

    /** What is refused below is refused for one reason alone only if the worlds are as they are told. */
    private static void worlds() {
        int[] states = {2, 2, 0, 71, 71, 0, 0};
        int[] places = {-1, 1, 2};
        for (int i = 0; i < states.length; i++) {
            int asked = i;
            Check.due("busy, sailing " + i, states[i], () -> Worlds.busy().state(asked));
        }
        for (int i = 0; i < places.length; i++) {
            int asked = i;
            Check.due("busy, ship " + i, places[i], () -> Worlds.busy().place(asked));
        }
        ArchipelagoFerries busy = Worlds.busy();
        busy.cancel(6);
        Check.due("busy, 3 can be replaced by 1", 7, () -> busy.replace(3, 1));
        Check.due("busy, the next booking", 15, () -> Worlds.busy().book(9, 2, 0, 0, 0, false));
        Check.due("full, the last sailing", 71, () -> Worlds.full().state(20));
        Check.due("full, the last booking", 15, () -> Worlds.full().sailingOf(39));
        Check.due("full, the last tank", 1000, () -> Worlds.full().fuel(3));
        Check.due("full, the last crew", 0, () -> Worlds.full().hours(5, 0));
        Check.due("none left, the ship is at the island", 0, () -> noneLeft().place(0));
        Check.due("late", 9000, () -> Worlds.late().now());
    }

    private static void index(String what, Use call) {
        refused(what, Check.OUT_OF_BOUNDS, Worlds::busy, call);
    }

    private static void argument(String what, Use call) {
        refused(what, Check.ARGUMENT, Worlds::busy, call);
    }

    private static void state(String what, Use call) {
        refused(what, Check.STATE, Worlds::busy, call);
    }

    /** Calls that answer nothing are made to answer 0. */
    private static Use hindering(int what, int ship, int from, int to) {
        return x -> {
            x.hinder(what, ship, from, to);
            return 0;
        };
    }

    private static Use bussing(int island, int each, int first) {
        return x -> {
            x.bus(island, each, first);
            return 0;
        };
    }

    private static int[] noneOf(int count) {
        int[] none = new int[FAR.length + 1];
        System.arraycopy(FAR, 0, none, 0, FAR.length);
        none[FAR.length] = count;
        return none;
    }

    // ---- IndexOutOfBoundsException: there is no such island, ship, sailing, booking, person or crew

    private static void noSuchIsland() {
        for (int island : noneOf(6)) {
            index("2 home " + island, x -> x.ship(island, 1, 10, 1, 1, 1));
            index("6 island " + island, x -> x.depth(island, 0));
            index("8 island " + island, bussing(island, 1, 0));
            index("10 to " + island, x -> x.plan(0, island, 50, 10));
            if (island != -1) {
                index("9 island " + island, x -> x.reside(0, island));
            }
        }
    }

    private static void noSuchShip() {
        for (int ship : noneOf(3)) {
            index("3 ship " + ship, x -> x.fill(ship, 1));
            index("4 ship " + ship, x -> x.crew(ship, 0, 0));
            index("7 ship " + ship, hindering(2, ship, 0, 100));
            index("10 ship " + ship, x -> x.plan(ship, 5, 50, 10));
            index("12 ship " + ship, x -> x.replace(3, ship));
            index("18 ship " + ship, x -> x.place(ship));
            index("19 ship " + ship, x -> x.placeByLine(ship, 0));
            index("20 ship " + ship, x -> x.fuel(ship));
        }
    }

    private static void noSuchCrew() {
        for (int crew : noneOf(3)) {
            index("5 crew " + crew, x -> x.hours(crew, 0));
        }
    }

    private static void noSuchPerson() {
        for (int person : noneOf(10)) {
            index("9 person " + person, x -> x.reside(person, 0));
            index("21 person " + person, x -> x.book(person, 2, 0, 0, 0, false));
        }
    }

    private static void noSuchSailing() {
        for (int sailing : noneOf(7)) {
            index("11 sailing " + sailing, x -> x.cancel(sailing));
            index("12 sailing " + sailing, x -> x.replace(sailing, 0));
            index("15 sailing " + sailing, x -> x.state(sailing));
            index("16 sailing " + sailing, x -> x.ends(sailing));
            index("17 sailing " + sailing, x -> x.busAfter(sailing));
            index("21 sailing " + sailing, x -> x.book(0, sailing, 0, 0, 0, false));
            index("25 sailing " + sailing, x -> x.taken(sailing));
            index("26 sailing " + sailing, x -> x.list(sailing));
        }
    }

    private static void noSuchBooking() {
        for (int booking : noneOf(15)) {
            index("22 booking " + booking, x -> x.sailingOf(booking));
            index("23 booking " + booking, x -> x.lane(booking));
            index("24 booking " + booking, x -> x.paid(booking));
        }
    }

    // ---- the others, by promise; behind each, which of two that apply is thrown

    private static void ship() {
        argument("2 lanes 0", x -> x.ship(0, 0, 10, 1, 1, 1));
        argument("2 lanes 5", x -> x.ship(0, 5, 10, 1, 1, 1));
        argument("2 length 9", x -> x.ship(0, 1, 9, 1, 1, 1));
        argument("2 length 101", x -> x.ship(0, 1, 101, 1, 1, 1));
        argument("2 weight 0", x -> x.ship(0, 1, 10, 0, 1, 1));
        argument("2 weight 1001", x -> x.ship(0, 1, 10, 1001, 1, 1));
        argument("2 draught 0", x -> x.ship(0, 1, 10, 1, 0, 1));
        argument("2 draught 10", x -> x.ship(0, 1, 10, 1, 10, 1));
        argument("2 speed 0", x -> x.ship(0, 1, 10, 1, 1, 0));
        argument("2 speed 41", x -> x.ship(0, 1, 10, 1, 1, 41));
        refused("2 there are 4", Check.STATE, Worlds::full, x -> x.ship(0, 1, 10, 1, 1, 1));
        index("2 no home, and lanes", x -> x.ship(6, 0, 10, 1, 1, 1));
        refused("2 no home, and 4", Check.OUT_OF_BOUNDS, Worlds::full, x -> x.ship(-1, 1, 10, 1, 1, 1));
        refused("2 speed, and 4", Check.ARGUMENT, Worlds::full, x -> x.ship(0, 1, 10, 1, 1, 41));
    }

    private static void fill() {
        argument("3 amount 0", x -> x.fill(0, 0));
        argument("3 amount -1", x -> x.fill(0, -1));
        argument("3 amount 1001", x -> x.fill(0, 1001));
        argument("3 amount far above", x -> x.fill(0, Integer.MAX_VALUE));
        state("3 one more than 1000", x -> x.fill(2, 601));
        refused("3 one more in a full tank", Check.STATE, Worlds::full, x -> x.fill(3, 1));
        index("3 no ship, and amount", x -> x.fill(3, 0));
        refused("3 amount, and full", Check.ARGUMENT, Worlds::full, x -> x.fill(0, 1001));
    }

    private static void crew() {
        argument("4 from -1", x -> x.crew(0, -1, 0));
        argument("4 from 501", x -> x.crew(0, 501, 501));
        argument("4 to less than from", x -> x.crew(0, 5, 4));
        argument("4 to 501", x -> x.crew(0, 0, 501));
        refused("4 there are 6", Check.STATE, Worlds::full, x -> x.crew(0, 0, 0));
        index("4 no ship, and from", x -> x.crew(3, -1, 0));
        refused("4 no ship, and 6", Check.OUT_OF_BOUNDS, Worlds::full, x -> x.crew(4, 0, 0));
        refused("4 to, and 6", Check.ARGUMENT, Worlds::full, x -> x.crew(0, 0, 501));
    }

    private static void hours() {
        argument("5 day -1", x -> x.hours(0, -1));
        argument("5 day 501", x -> x.hours(0, 501));
        index("5 no crew, and day", x -> x.hours(3, 501));
    }

    private static void depth() {
        argument("6 hour -1", x -> x.depth(0, -1));
        argument("6 hour 10001", x -> x.depth(5, 10001));
        index("6 no island, and hour", x -> x.depth(6, 10001));
    }

    private static void hinder() {
        argument("7 what -1", hindering(-1, 0, 0, 100));
        argument("7 what 3", hindering(3, 0, 0, 100));
        argument("7 what 3 is not 2: no ship counts for nothing", hindering(3, 99, 0, 100));
        for (int what = 0; what <= 2; what++) {
            argument("7 from -1 of " + what, hindering(what, 1, -1, 100));
            argument("7 from 10001 of " + what, hindering(what, 1, 10001, 10001));
            argument("7 to less than from of " + what, hindering(what, 1, 100, 99));
            argument("7 to 10001 of " + what, hindering(what, 1, 0, 10001));
        }
        index("7 no ship, and from", hindering(2, 3, -1, 100));
        index("7 no ship, and to", hindering(2, -1, 100, 99));
    }

    private static void bus() {
        argument("8 each 0", bussing(1, 0, 0));
        argument("8 each 13", bussing(1, 13, 0));
        argument("8 first -1", bussing(1, 12, -1));
        for (int each = 1; each <= 12; each++) {
            argument("8 first as each, " + each, bussing(1, each, each));
        }
        index("8 no island, and each", bussing(6, 0, 0));
    }

    private static void plan() {
        argument("10 hour ahead of now", x -> x.plan(2, 0, 4, 10));
        argument("10 hour 10001", x -> x.plan(0, 5, 10001, 10));
        argument("10 distance 0", x -> x.plan(0, 5, 50, 0));
        argument("10 distance 401", x -> x.plan(0, 5, 50, 401));
        argument("10 to where it goes from", x -> x.plan(0, 1, 50, 10));
        state("10 one hour ahead of the end", x -> x.plan(0, 5, 12, 10));
        refused("10 there are 24", Check.STATE, Worlds::full, x -> x.plan(0, 4, 100, 10));
        index("10 no island, and hour", x -> x.plan(0, 6, 4, 10));
        index("10 no ship, and distance", x -> x.plan(3, 5, 50, 0));
        argument("10 distance, and ahead of the end", x -> x.plan(0, 5, 12, 401));
        argument("10 ahead of now, and of the end", x -> x.plan(0, 5, 4, 10));
        argument("10 to where it goes from, and ahead of the end", x -> x.plan(0, 1, 12, 10));
        refused("10 distance, and 24", Check.ARGUMENT, Worlds::full, x -> x.plan(0, 4, 100, 0));
        refused("10 no ship, and 24", Check.OUT_OF_BOUNDS, Worlds::full, x -> x.plan(4, 4, 100, 10));
    }

    private static void cancel() {
        state("11 sailed", x -> x.cancel(0));
        state("11 at sea", x -> x.cancel(1));
        state("11 cancelled", x -> x.cancel(3));
        state("11 cancelled and replaced", x -> x.cancel(4));
    }

    private static void replace() {
        state("12 sailed", x -> x.replace(0, 1));
        state("12 planned", x -> x.replace(6, 1));
        state("12 replaced", x -> x.replace(4, 2));
        state("12 the ship has a planned one", x -> x.replace(3, 1));
        state("12 the ship is at sea", x -> x.replace(3, 0));
        refused("12 the ship is at sea, and has no planned one", Check.STATE, RefusedCallsTest::atSea,
            x -> x.replace(3, 0));
        refused("12 the ship is elsewhere", Check.STATE, RefusedCallsTest::elsewhere, x -> x.replace(3, 2));
        refused("12 the ship is out", Check.STATE, RefusedCallsTest::out, x -> x.replace(3, 1));
        refused("12 there are 24", Check.STATE, RefusedCallsTest::noneLeft, x -> x.replace(16, 0));
        index("12 no ship, and sailed", x -> x.replace(0, 3));
        index("12 no sailing, and the ship is at sea", x -> x.replace(7, 0));
    }

    private static ArchipelagoFerries atSea() {
        ArchipelagoFerries x = Worlds.busy();
        x.cancel(2);
        return x;
    }

    private static ArchipelagoFerries elsewhere() {
        ArchipelagoFerries x = Worlds.busy();
        x.cancel(5);
        return x;
    }

    private static ArchipelagoFerries out() {
        ArchipelagoFerries x = Worlds.busy();
        x.cancel(6);
        x.hinder(2, 1, 5, 5);
        return x;
    }

    private static ArchipelagoFerries noneLeft() {
        ArchipelagoFerries x = Worlds.full();
        for (int sailing = 0; sailing < 20; sailing += 4) {
            x.cancel(sailing);
        }
        return x;
    }

    private static void pass() {
        argument("13 hours 0", x -> x.pass(0));
        argument("13 hours -1", x -> x.pass(-1));
        argument("13 hours 49", x -> x.pass(49));
        argument("13 hours far above", x -> x.pass(Integer.MAX_VALUE));
        refused("13 above 9000", Check.STATE, Worlds::late, x -> x.pass(1));
        refused("13 far above 9000", Check.STATE, Worlds::late, x -> x.pass(48));
        refused("13 to 9001", Check.STATE, Worlds::nearlyLate, x -> x.pass(25));
        refused("13 to 9024", Check.STATE, Worlds::nearlyLate, x -> x.pass(48));
        refused("13 hours, and above 9000", Check.ARGUMENT, Worlds::late, x -> x.pass(49));
    }

    private static void placeByLine() {
        argument("19 hour -1", x -> x.placeByLine(0, -1));
        argument("19 hour behind now", x -> x.placeByLine(0, 6));
        index("19 no ship, and hour", x -> x.placeByLine(3, 6));
    }

    private static void book() {
        argument("21 kind -1", x -> x.book(0, 2, -1, 1, 1, false));
        argument("21 kind 4", x -> x.book(0, 2, 4, 1, 1, false));
        argument("21 a walker with a length", x -> x.book(0, 2, 0, 1, 0, false));
        argument("21 a walker below a length", x -> x.book(0, 2, 0, -1, 0, false));
        argument("21 a walker with a weight", x -> x.book(0, 2, 0, 0, 1, false));
        argument("21 a walker below a weight", x -> x.book(0, 2, 0, 0, -1, false));
        argument("21 a walker with dangerous goods", x -> x.book(0, 2, 0, 0, 0, true));
        for (int kind = 1; kind <= 3; kind++) {
            int k = kind;
            argument("21 length 0 of " + k, x -> x.book(0, 2, k, 0, 1, false));
            argument("21 length 41 of " + k, x -> x.book(0, 2, k, 41, 1, false));
            argument("21 weight 0 of " + k, x -> x.book(0, 2, k, 1, 0, false));
            argument("21 weight 201 of " + k, x -> x.book(0, 2, k, 1, 201, true));
        }
        state("21 sailed", x -> x.book(0, 0, 0, 0, 0, false));
        state("21 at sea", x -> x.book(0, 1, 0, 0, 0, false));
        state("21 cancelled", x -> x.book(0, 3, 0, 0, 0, false));
        refused("21 there are 40", Check.STATE, Worlds::full, x -> x.book(0, 0, 0, 0, 0, false));
        index("21 no person, and kind", x -> x.book(10, 2, 4, 1, 1, false));
        index("21 no sailing, and weight", x -> x.book(0, 7, 1, 1, 201, false));
        argument("21 kind, and sailed", x -> x.book(0, 0, 4, 1, 1, false));
        refused("21 length, and 40", Check.ARGUMENT, Worlds::full, x -> x.book(0, 0, 1, 41, 1, false));
        refused("21 no person, and 40", Check.OUT_OF_BOUNDS, Worlds::full, x -> x.book(-1, 0, 1, 1, 1, false));
    }

    private static void list() {
        refused("26 planned", Check.NO_ELEMENT, Worlds::busy, x -> x.list(2));
        refused("26 cancelled", Check.NO_ELEMENT, Worlds::busy, x -> x.list(3));
    }

    private static void accounts() {
        for (int line : noneOf(3)) {
            argument("27 line " + line, x -> x.account(line));
            argument("28 line " + line, x -> x.accountAnew(line));
        }
        argument("28 FUEL", x -> x.accountAnew(2));
    }
}
