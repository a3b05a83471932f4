import java.util.Random;

/** Long runs of drawn calls, each answered as PlainFerries answers it; the draws are the same each time. */
public final class RandomRunsTest {
    private static final int RUNS = 4000;
    private static final int CALLS = 500;

    private final Random random;
    private final ArchipelagoFerries x = new ArchipelagoFerries();
    private final PlainFerries y = new PlainFerries();
    private final StringBuilder told = new StringBuilder();
    private final boolean isWild;
    private boolean isWrong = false;

    private RandomRunsTest(long seed) {
        random = new Random(seed);
        isWild = seed % 4 == 0;
    }

    public static void main(String[] args) {
        long[] seen = new long[12];
        for (long seed = 1; seed <= RUNS; seed++) {
            RandomRunsTest run = new RandomRunsTest(seed);
            run.go();
            for (int i = 0; i < 7; i++) {
                seen[i] += run.y.reasons[i];
            }
            seen[7] += run.y.putOffs;
            seen[8] += run.y.overs;
            seen[9] += run.y.thirdTimes;
            seen[10] += run.y.replaced;
            seen[11] += run.y.trips.stream().mapToInt(t -> t.aboard.size()).sum();
            if (run.isWrong) {
                break;
            }
        }
        for (int i = 0; i < seen.length; i++) {
            // A run that never meets a case would tell nothing of it.
            Check.same("random runs met case " + i, Boolean.toString(seen[i] > 100), "true");
        }
        Check.end();
    }

    private int draw(int from, int to) {
        return from + random.nextInt(to - from + 1);
    }

    /** A value of a range, at times beside it or far away. */
    private int near(int from, int to) {
        int kind = random.nextInt(isWild ? 12 : 60);
        switch (kind) {
            case 0:
                return from - 1;
            case 1:
                return to + 1;
            case 2:
                return random.nextBoolean() ? Integer.MIN_VALUE : Integer.MAX_VALUE;
            case 3:
                return random.nextInt();
            case 4:
                return from;
            case 5:
                return to;
            default:
                return to < from ? from : draw(from, to);
        }
    }

    private void compare(String call, Check.Call got, Check.Call want) {
        String answer = Check.answer(got);
        String due = Check.answer(want);
        told.append(call).append(" -> ").append(answer).append('\n');
        if (!answer.equals(due) && !isWrong) {
            isWrong = true;
            Check.same("run:\n" + told, answer, due);
        }
    }

    private void go() {
        int ships = draw(1, 4);
        for (int i = 0; i < ships; i++) {
            addShip();
            fill(i, draw(100, 1000));
            addCrew(i);
        }
        for (int i = 0; i < 5; i++) {
            reside();
        }
        for (int i = 0; i < CALLS - 60 && !isWrong; i++) {
            step();
        }
        askAll();
    }

    private void addShip() {
        int home = near(0, random.nextBoolean() ? 1 : 5);
        int lanes = near(1, 4);
        int length = near(10, random.nextBoolean() ? 30 : 100);
        int weight = near(1, 1000);
        int draught = near(1, random.nextInt(3) == 0 ? 9 : 4);
        int speed = near(1, 40);
        compare("ship(" + home + ", " + lanes + ", " + length + ", " + weight + ", " + draught + ", " + speed + ")",
            () -> x.ship(home, lanes, length, weight, draught, speed),
            () -> y.ship(home, lanes, length, weight, draught, speed));
    }

    private void fill(int ship, int amount) {
        compare("fill(" + ship + ", " + amount + ")", () -> x.fill(ship, amount), () -> y.fill(ship, amount));
    }

    private void addCrew(int ship) {
        int from = near(0, 3);
        int to = near(Math.max(from, 0), 500);
        compare("crew(" + ship + ", " + from + ", " + to + ")", () -> x.crew(ship, from, to),
            () -> y.crew(ship, from, to));
    }

    private void reside() {
        int person = near(0, 9);
        int island = near(-1, random.nextBoolean() ? 1 : 5);
        compare("reside(" + person + ", " + island + ")", () -> x.reside(person, island),
            () -> y.reside(person, island));
    }

    private int someShip() {
        return near(0, y.ships.size() - 1);
    }

    private int someSailing() {
        int last = y.trips.size() - 1;
        return random.nextBoolean() ? near(0, last) : near(Math.max(0, last - 5), last);
    }

    private int someBooking() {
        return near(0, y.tickets.size() - 1);
    }

    private void step() {
        switch (random.nextInt(24)) {
            case 0:
                if (random.nextInt(10) == 0) addShip();
                else if (random.nextInt(4) == 0) addCrew(someShip());
                else reside();
                break;
            case 1:
                fill(someShip(), near(1, random.nextBoolean() ? 50 : 1000));
                break;
            case 2:
                if (random.nextInt(3) == 0) hinder();
                break;
            case 3:
                bus();
                break;
            case 4:
            case 5:
                plan();
                break;
            case 6:
                if (random.nextInt(6) == 0) {
                    int cancelled = someSailing();
                    compare("cancel(" + cancelled + ")", () -> x.cancel(cancelled), () -> y.cancel(cancelled));
                }
                break;
            case 7:
                replace();
                break;
            case 8:
                int hours = near(1, random.nextInt(3) == 0 ? 48 : 4);
                if (random.nextInt(3) == 0) {
                    compare("pass(" + hours + ")", () -> x.pass(hours), () -> y.pass(hours));
                }
                break;
            case 9:
            case 10:
            case 11:
                book();
                break;
            default:
                ask();
        }
    }

    private void hinder() {
        int what = near(0, 2);
        int ship = someShip();
        int from = near(y.now, y.now + 20);
        int to = near(Math.max(from, 0), Math.min(10000, y.now + 30));
        compare("hinder(" + what + ", " + ship + ", " + from + ", " + to + ")",
            () -> told(() -> x.hinder(what, ship, from, to)), () -> told(() -> y.hinder(what, ship, from, to)));
    }

    private static long told(Runnable call) {
        call.run();
        return 0;
    }

    private void bus() {
        int island = near(0, 5);
        int each = near(1, 12);
        int first = near(0, Math.max(each, 1) - 1);
        compare("bus(" + island + ", " + each + ", " + first + ")", () -> told(() -> x.bus(island, each, first)),
            () -> told(() -> y.bus(island, each, first)));
    }

    private void plan() {
        int ship = someShip();
        int to = near(0, random.nextBoolean() ? 1 : 5);
        int free = y.now;
        for (PlainFerries.Trip t : y.trips) {
            if (t.ship.number == ship && t.state % 10 != 1) {
                free = Math.max(free, t.hour + t.hours);
            }
        }
        int from = random.nextInt(6) == 0 ? y.now : free;
        int hour = near(from, Math.min(10000, from + 8));
        int distance = near(1, random.nextInt(3) == 0 ? 400 : 80);
        compare("plan(" + ship + ", " + to + ", " + hour + ", " + distance + ")",
            () -> x.plan(ship, to, hour, distance), () -> y.plan(ship, to, hour, distance));
    }

    private void replace() {
        int sailing = someSailing();
        for (PlainFerries.Trip t : y.trips) {
            if (t.state % 10 == 1 && !t.replaced && random.nextInt(3) == 0) {
                sailing = t.number;
            }
        }
        int ship = someShip();
        int asked = sailing;
        compare("replace(" + asked + ", " + ship + ")", () -> x.replace(asked, ship), () -> y.replace(asked, ship));
    }

    private void book() {
        int sailing = someSailing();
        for (PlainFerries.Trip t : y.trips) {
            if (t.state == 0 && random.nextInt(2) == 0) {
                sailing = t.number;
            }
        }
        int person = near(0, 9);
        int kind = random.nextInt(5) == 0 ? 0 : near(1, 3);
        int length = kind == 0 ? near(0, 0) : near(1, random.nextBoolean() ? 12 : 40);
        int weight = kind == 0 ? near(0, 0) : near(1, random.nextInt(3) == 0 ? 200 : 30);
        boolean isDangerous = random.nextInt(3) == 0 && (kind != 0 || random.nextInt(5) == 0);
        int asked = sailing;
        compare("book(" + person + ", " + asked + ", " + kind + ", " + length + ", " + weight + ", " + isDangerous + ")",
            () -> x.book(person, asked, kind, length, weight, isDangerous),
            () -> y.book(person, asked, kind, length, weight, isDangerous));
    }

    private void ask() {
        int ship = someShip();
        int sailing = someSailing();
        int booking = someBooking();
        int crew = near(0, y.crews.size() - 1);
        int day = near(0, random.nextBoolean() ? 500 : y.now / 24);
        int island = near(0, 5);
        int any = near(0, 10000);
        int hour = near(0, y.now);
        int line = near(0, 2);
        switch (random.nextInt(15)) {
            case 0:
                compare("hours(" + crew + ", " + day + ")", () -> x.hours(crew, day), () -> y.hours(crew, day));
                break;
            case 1:
                compare("depth(" + island + ", " + any + ")", () -> x.depth(island, any), () -> y.depth(island, any));
                break;
            case 2:
                compare("now()", x::now, y::now);
                break;
            case 3:
                compare("placeByLine(" + ship + ", " + hour + ")", () -> x.placeByLine(ship, hour),
                    () -> y.placeByLine(ship, hour));
                break;
            case 4:
                askShip(ship);
                break;
            case 5:
            case 6:
            case 7:
                askSailing(sailing);
                break;
            case 8:
            case 9:
            case 10:
                askBooking(booking);
                break;
            default:
                askLine(line);
        }
    }

    private void askShip(int ship) {
        compare("place(" + ship + ")", () -> x.place(ship), () -> y.place(ship));
        compare("fuel(" + ship + ")", () -> x.fuel(ship), () -> y.fuel(ship));
    }

    private void askSailing(int sailing) {
        compare("state(" + sailing + ")", () -> x.state(sailing), () -> y.state(sailing));
        compare("ends(" + sailing + ")", () -> x.ends(sailing), () -> y.ends(sailing));
        compare("busAfter(" + sailing + ")", () -> x.busAfter(sailing), () -> y.busAfter(sailing));
        compare("taken(" + sailing + ")", () -> x.taken(sailing), () -> y.taken(sailing));
        compare("list(" + sailing + ")", () -> x.list(sailing), () -> y.list(sailing));
    }

    private void askBooking(int booking) {
        compare("sailingOf(" + booking + ")", () -> x.sailingOf(booking), () -> y.sailingOf(booking));
        compare("lane(" + booking + ")", () -> x.lane(booking), () -> y.lane(booking));
        compare("paid(" + booking + ")", () -> x.paid(booking), () -> y.paid(booking));
    }

    private void askLine(int line) {
        compare("account(" + line + ")", () -> x.account(line), () -> y.account(line));
        compare("accountAnew(" + line + ")", () -> x.accountAnew(line), () -> y.accountAnew(line));
    }

    private void askAll() {
        for (int i = 0; i <= y.ships.size(); i++) {
            askShip(i);
            for (int hour = 0; hour <= Math.min(y.now, 200); hour++) {
                int ship = i;
                int at = hour;
                compare("placeByLine(" + ship + ", " + at + ")", () -> x.placeByLine(ship, at),
                    () -> y.placeByLine(ship, at));
            }
        }
        for (int i = 0; i <= y.trips.size(); i++) {
            askSailing(i);
        }
        for (int i = 0; i <= y.tickets.size(); i++) {
            askBooking(i);
        }
        for (int i = 0; i <= 3; i++) {
            askLine(i);
        }
    }
}
