import java.util.ArrayList;
import java.util.Comparator;
import java.util.List;
import java.util.NoSuchElementException;
import java.util.TreeMap;
import java.util.stream.Collectors;
import java.util.stream.IntStream;

/**
 * The document once more, written apart from the program and the other way round: it keeps where the program counts
 * anew (hours, places), counts anew where that keeps (accounts, sides), and uses the library freely.
 */
final class PlainFerries {
    static final class Vessel {
        int number, lanes, length, weight, draught, speed, tank, outFrom = 1, outTo = 0, home;
        final TreeMap<Integer, Integer> islandFrom = new TreeMap<>();
    }

    static final class Team {
        int ship, from, to;
        final int[] hours = new int[501];
    }

    static final class Trip {
        int number, from, to, hour, distance, hours, state;
        Vessel ship;
        boolean replaced;
        final List<Ticket> aboard = new ArrayList<>();
    }

    static final class Ticket {
        int number, kind, length, weight, fare, overs, lane = -1;
        boolean dangerous, islander, back;
        Trip trip;

        int own() {
            return back ? 0 : islander ? fare / 2 : fare;
        }

        int states() {
            return back || !islander ? 0 : (fare + 1) / 2;
        }
    }

    final List<Vessel> ships = new ArrayList<>();
    final List<Team> crews = new ArrayList<>();
    final List<Trip> trips = new ArrayList<>();
    final List<Ticket> tickets = new ArrayList<>();
    final int[] homes = IntStream.generate(() -> -1).limit(10).toArray();
    final int[][] buses = new int[6][];
    final int[] storm = {1, 0};
    final int[] strike = {1, 0};
    final int[] reasons = new int[8];
    int now;
    int filled;
    int putOffs;
    int overs;
    int thirdTimes;
    int replaced;

    private static void index(boolean ok) {
        if (!ok) throw new IndexOutOfBoundsException();
    }

    private static void argument(boolean ok) {
        if (!ok) throw new IllegalArgumentException();
    }

    private static void state(boolean ok) {
        if (!ok) throw new IllegalStateException();
    }

    private static <T> T get(List<T> list, int i) {
        index(i >= 0 && i < list.size());
        return list.get(i);
    }

    int ship(int home, int lanes, int length, int weight, int draught, int speed) {
        index(home >= 0 && home <= 5);
        argument(lanes >= 1 && lanes <= 4);
        argument(length >= 10 && length <= 100);
        argument(weight >= 1 && weight <= 1000);
        argument(draught >= 1 && draught <= 9);
        argument(speed >= 1 && speed <= 40);
        state(ships.size() != 4);
        Vessel v = new Vessel();
        v.number = ships.size();
        v.home = home;
        v.lanes = lanes;
        v.length = length;
        v.weight = weight;
        v.draught = draught;
        v.speed = speed;
        v.islandFrom.put(0, home);
        ships.add(v);
        return v.number;
    }

    int fill(int ship, int amount) {
        Vessel v = get(ships, ship);
        argument(amount >= 1 && amount <= 1000);
        state(v.tank + amount <= 1000);
        filled += amount;
        return v.tank += amount;
    }

    int crew(int ship, int from, int to) {
        get(ships, ship);
        argument(from >= 0 && from <= 500 && to >= from && to <= 500);
        state(crews.size() != 6);
        Team t = new Team();
        t.ship = ship;
        t.from = from;
        t.to = to;
        crews.add(t);
        return crews.size() - 1;
    }

    int hours(int crew, int day) {
        Team t = get(crews, crew);
        argument(day >= 0 && day <= 500);
        return t.hours[day];
    }

    int depth(int island, int hour) {
        index(island >= 0 && island <= 5);
        argument(hour >= 0 && hour <= 10000);
        return deep(island, hour);
    }

    private static int deep(int island, int hour) {
        int turn = (hour + 2 * island) % 12;
        return turn <= 6 ? 9 - turn : turn - 3;
    }

    void hinder(int what, int ship, int from, int to) {
        if (what == 2) get(ships, ship);
        argument(what >= 0 && what <= 2 && from >= 0 && from <= to && to <= 10000);
        if (what == 2) {
            ships.get(ship).outFrom = from;
            ships.get(ship).outTo = to;
        } else {
            int[] span = what == 0 ? storm : strike;
            span[0] = from;
            span[1] = to;
        }
    }

    void bus(int island, int each, int first) {
        index(island >= 0 && island <= 5);
        argument(each >= 1 && each <= 12 && first >= 0 && first < each);
        buses[island] = new int[] {each, first};
    }

    int reside(int person, int island) {
        index(person >= 0 && person <= 9 && island >= -1 && island <= 5);
        int before = homes[person];
        homes[person] = island;
        return before;
    }

    private List<Trip> goingOf(Vessel v) {
        return trips.stream().filter(t -> t.ship == v && t.state % 10 != 1).collect(Collectors.toList());
    }

    int plan(int ship, int to, int hour, int distance) {
        Vessel v = get(ships, ship);
        index(to >= 0 && to <= 5);
        Trip last = goingOf(v).stream().max(Comparator.comparingInt(t -> t.hour)).orElse(null);
        int from = last == null ? place(ship) : last.to;
        argument(hour >= now && hour <= 10000 && distance >= 1 && distance <= 400 && to != from);
        state(last == null || last.hour + last.hours <= hour);
        state(trips.size() != 24);
        return add(v, from, to, hour, distance);
    }

    private int add(Vessel v, int from, int to, int hour, int distance) {
        Trip t = new Trip();
        t.number = trips.size();
        t.ship = v;
        t.from = from;
        t.to = to;
        t.hour = hour;
        t.distance = distance;
        while (t.hours * v.speed < distance) t.hours++;
        trips.add(t);
        return t.number;
    }

    int cancel(int sailing) {
        Trip t = get(trips, sailing);
        state(t.state == 0);
        t.state = 71;
        return handOver(t);
    }

    int replace(int sailing, int ship) {
        Trip t = get(trips, sailing);
        Vessel v = get(ships, ship);
        state(t.state % 10 == 1 && !t.replaced);
        state(goingOf(v).stream().allMatch(s -> s.state == 2 && s.hour + s.hours <= now));
        state(place(ship) == t.from);
        state(now < v.outFrom || now > v.outTo);
        state(trips.size() != 24);
        t.replaced = true;
        replaced++;
        return add(v, t.from, t.to, now, t.distance);
    }

    int pass(int hours) {
        argument(hours >= 1 && hours <= 48);
        state(now + hours <= 9000);
        int end = now + hours;
        while (now < end) {
            for (Trip t : trips) {
                if (t.state == 0 && t.hour == now) look(t);
            }
            now++;
        }
        return now;
    }

    private void look(Trip t) {
        Team team = null;
        for (int i = crews.size() - 1; i >= 0; i--) {
            Team c = crews.get(i);
            int day = t.hour / 24;
            if (c.ship == t.ship.number && day >= c.from && day <= c.to && c.hours[day] + t.hours <= 12) team = c;
        }
        int burnt = (int) (((float) t.hours * t.ship.speed * t.ship.speed) / 100.0f);
        int reason = 0;
        if (t.ship.tank < burnt) reason = 6;
        if (team == null) reason = 5;
        if (t.number % 2 != 0 && now >= strike[0] && now <= strike[1]) reason = 4;
        if (now >= storm[0] && now <= storm[1]) reason = 3;
        if (Math.min(deep(t.from, now), 99) < t.ship.draught || deep(t.to, now + t.hours) < t.ship.draught) reason = 2;
        if (place(t.ship.number) != t.from || now >= t.ship.outFrom && now <= t.ship.outTo) reason = 1;
        reasons[reason]++;
        if (reason > 0) {
            t.state = 10 * reason + 1;
        } else {
            t.state = 2;
            team.hours[t.hour / 24] += t.hours;
            t.ship.tank -= burnt;
            t.ship.islandFrom.put(t.hour, -1);
            t.ship.islandFrom.put(t.hour + t.hours, t.to);
            load(t);
        }
        handOver(t);
    }

    private int side(Trip t, int lane) {
        int n = t.ship.lanes;
        return 2 * lane < n - 1 ? 1 : 2 * lane > n - 1 ? -1 : 0;
    }

    private int lean(Trip t) {
        return t.aboard.stream().filter(b -> b.lane >= 0).mapToInt(b -> side(t, b.lane) * b.weight).sum();
    }

    private void load(Trip t) {
        List<Ticket> queue = new ArrayList<>();
        tickets.stream().filter(b -> b.trip == t && b.islander).forEach(queue::add);
        tickets.stream().filter(b -> b.trip == t && !b.islander).forEach(queue::add);
        for (Ticket b : queue) {
            if (b.kind == 0) {
                t.aboard.add(b);
                continue;
            }
            if (t.aboard.stream().mapToInt(o -> o.weight).sum() + b.weight > t.ship.weight) continue;
            if (b.dangerous && t.aboard.stream().filter(o -> o.dangerous).count() >= 2) continue;
            int lean = lean(t);
            List<Integer> open = IntStream.range(0, t.ship.lanes).boxed().filter(k -> isOpen(t, b, k))
                .sorted(Comparator.comparingInt(k -> Math.abs(lean + side(t, k) * b.weight))).toList();
            if (!open.isEmpty()) {
                b.lane = open.get(0);
                t.aboard.add(b);
            }
        }
        while (Math.abs(lean(t)) > 20) {
            int heavier = lean(t) > 0 ? 1 : -1;
            Ticket last = t.aboard.stream().filter(b -> b.lane >= 0 && side(t, b.lane) == heavier)
                .reduce((a, b) -> b).orElseThrow(AssertionError::new);
            t.aboard.remove(last);
            last.lane = -1;
            putOffs++;
        }
    }

    private boolean isOpen(Trip t, Ticket b, int lane) {
        int used = t.aboard.stream().filter(o -> o.lane == lane).mapToInt(o -> o.length).sum();
        boolean near = t.aboard.stream().anyMatch(o -> o.dangerous && Math.abs(o.lane - lane) <= 1);
        return used + b.length <= t.ship.length && !(b.dangerous && near);
    }

    private int handOver(Trip t) {
        List<Ticket> left = tickets.stream().filter(b -> b.trip == t && !t.aboard.contains(b)).toList();
        for (Ticket b : left) {
            Trip next = trips.stream().filter(s -> s.state == 0 && s.from == t.from && s.to == t.to)
                .min(Comparator.comparingInt((Trip s) -> s.hour).thenComparingInt(s -> s.number)).orElse(null);
            b.overs++;
            if (next == null || b.overs == 3) {
                thirdTimes += next != null ? 1 : 0;
                b.back = true;
                b.trip = null;
            } else {
                overs++;
                b.trip = next;
            }
        }
        return left.size();
    }

    int now() {
        return now;
    }

    int state(int sailing) {
        return get(trips, sailing).state;
    }

    int ends(int sailing) {
        Trip t = get(trips, sailing);
        return t.hour + t.hours;
    }

    int busAfter(int sailing) {
        Trip t = get(trips, sailing);
        if (t.state != 2 || buses[t.to] == null) return -1;
        int wait = 0;
        while ((t.hour + t.hours + wait) % buses[t.to][0] != buses[t.to][1]) wait++;
        return wait;
    }

    int place(int ship) {
        return get(ships, ship).islandFrom.floorEntry(now).getValue();
    }

    int placeByLine(int ship, int hour) {
        Vessel v = get(ships, ship);
        argument(hour >= 0 && hour <= now);
        return v.islandFrom.floorEntry(hour).getValue();
    }

    int fuel(int ship) {
        return get(ships, ship).tank;
    }

    int book(int person, int sailing, int kind, int length, int weight, boolean dangerous) {
        index(person >= 0 && person <= 9);
        Trip t = get(trips, sailing);
        argument(kind >= 0 && kind <= 3);
        argument(kind == 0 ? length == 0 && weight == 0 && !dangerous
            : length >= 1 && length <= 40 && weight >= 1 && weight <= 200);
        state(t.state == 0);
        state(tickets.size() != 40);
        Ticket b = new Ticket();
        b.number = tickets.size();
        b.trip = t;
        b.kind = kind;
        b.length = length;
        b.weight = weight;
        b.dangerous = dangerous;
        b.islander = homes[person] >= 0 && (homes[person] == t.from || homes[person] == t.to);
        b.fare = List.of(2, 5, 8, 20).get(kind) * t.distance;
        tickets.add(b);
        return b.number;
    }

    int sailingOf(int booking) {
        Ticket b = get(tickets, booking);
        return b.trip == null ? -1 : b.trip.number;
    }

    int lane(int booking) {
        return get(tickets, booking).lane;
    }

    int paid(int booking) {
        return get(tickets, booking).own();
    }

    int taken(int sailing) {
        return get(trips, sailing).aboard.size();
    }

    int list(int sailing) {
        Trip t = get(trips, sailing);
        if (t.state != 2) throw new NoSuchElementException();
        return lean(t);
    }

    long account(int line) {
        argument(line >= 0 && line <= 2);
        return line == 2 ? -3L * filled : accountAnew(line);
    }

    long accountAnew(int line) {
        argument(line == 0 || line == 1);
        return tickets.stream().mapToLong(b -> line == 0 ? b.own() : b.states()).sum();
    }
}
