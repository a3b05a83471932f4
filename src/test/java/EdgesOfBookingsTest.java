/** "Terms", "Bookings", sentence by sentence. Above each method stands the sentence that it holds the program to. */
public final class EdgesOfBookingsTest {
    public static void main(String[] args) {
        peopleOnNoIslandAtFirst();
        bookingsAtMostForty();
        onlyForPlannedOnes();
        walkersWithoutSize();
        islanderOfEitherIsland();
        islanderWhenItWasMade();
        faresByKind();
        halfRoundedDown();
        islandersFirstByNumbers();
        walkersAlways();
        weightsAtMost();
        weightsOnBoardAlone();
        roomForTheLength();
        leastDifference();
        lowestOfSeveral();
        fewerThanTwoDangerous();
        noneInTheLaneNorBeside();
        othersMayLieBesideDangerous();
        differenceAboveTwenty();
        lastOnTheHeavierSide();
        heavierSideChanges();
        onlyThoseOnASideArePutOff();
        onlyThoseOnBoardArePutOff();
        eachSailingBeginsEmpty();
        notTakenGoesOver();
        cancelledGoesOver();
        goesOverWithItsFare();
        toTheOneThatBeginsFirst();
        toTheLowestOfSeveral();
        toOneOfTheSameIslands();
        toOneThatIsPlanned();
        withoutOnePaidBack();
        thirdTimePaidBack();
        bothArePaidBack();
        allOfOneSailing();
        emptySailing();
        Check.end();
    }

    private static void lanes(String what, ArchipelagoFerries x, int... due) {
        for (int i = 0; i < due.length; i++) {
            int asked = i;
            Check.due(what + ", lane of " + i, due[i], () -> x.lane(asked));
        }
    }

    private static void sailings(String what, ArchipelagoFerries x, int... due) {
        for (int i = 0; i < due.length; i++) {
            int asked = i;
            Check.due(what + ", sailing of " + i, due[i], () -> x.sailingOf(asked));
        }
    }

    private static void walker(ArchipelagoFerries x, int person, int sailing) {
        x.book(person, sailing, 0, 0, 0, false);
    }

    private static void car(ArchipelagoFerries x, int person, int length, int weight) {
        x.book(person, 0, 1, length, weight, false);
    }

    private static void dangerous(ArchipelagoFerries x, int length, int weight) {
        x.book(0, 0, 3, length, weight, true);
    }

    /** As many ships at the island 0 as there are hours; each sails to the island 1 in its hour, by 10 an hour. */
    private static ArchipelagoFerries fleet(int... hours) {
        ArchipelagoFerries x = new ArchipelagoFerries();
        for (int ship = 0; ship < hours.length; ship++) {
            x.ship(0, 1, 10, 1000, 1, 10);
            x.fill(ship, 1000);
            x.crew(ship, 0, 500);
            x.plan(ship, 1, hours[ship], 10 * (ship + 1));
        }
        return x;
    }

    /** "There are the people 0 to 9; each resides on an island, or on none, as at first." */
    private static void peopleOnNoIslandAtFirst() {
        ArchipelagoFerries x = Worlds.ready(1, 10, 1);
        for (int person = 0; person < 10; person++) {
            walker(x, person, 0);
            int asked = person;
            Check.due("who resides on none is no islander, " + person, 20, () -> x.paid(asked));
            Check.due("on none at first, " + person, -1, () -> x.reside(asked, asked % 6));
            Check.due("then on an island, " + person, asked % 6, () -> x.reside(asked, -1));
            Check.due("then on none again, " + person, -1, () -> x.reside(asked, -1));
        }
        Check.refused("person -1", Check.OUT_OF_BOUNDS, () -> x.reside(-1, 0));
        Check.refused("person 10", Check.OUT_OF_BOUNDS, () -> x.reside(10, 0));
    }

    /** "Bookings are numbered from 0, at most 40." */
    private static void bookingsAtMostForty() {
        ArchipelagoFerries x = Worlds.ready(1, 10, 1);
        Check.refused("none at first", Check.OUT_OF_BOUNDS, () -> x.paid(0));
        for (int i = 0; i < 40; i++) {
            Check.due("booking " + i, i, () -> x.book(0, 0, 0, 0, 0, false));
        }
        Check.refused("a 41st", Check.STATE, () -> x.book(0, 0, 0, 0, 0, false));
        Check.refused("booking 40 is not there", Check.OUT_OF_BOUNDS, () -> x.paid(40));
        x.pass(1);
        Check.due("all 40 are taken", 40, () -> x.taken(0));
        x.plan(0, 0, 5, 10);
        Check.refused("those that sailed count", Check.STATE, () -> x.book(0, 1, 0, 0, 0, false));
    }

    /** "A booking is of a person, for a sailing that is PLANNED, ..." */
    private static void onlyForPlannedOnes() {
        ArchipelagoFerries x = Worlds.ready(1, 10, 1);
        x.plan(0, 0, 2, 10);
        x.cancel(1);
        Check.due("planned", 0, () -> x.book(0, 0, 0, 0, 0, false));
        Check.refused("cancelled", Check.STATE, () -> x.book(0, 1, 0, 0, 0, false));
        x.pass(1);
        Check.refused("sailed", Check.STATE, () -> x.book(0, 0, 0, 0, 0, false));
        Check.due("planned for now", 1, () -> x.book(0, x.plan(0, 0, 1, 10), 0, 0, 0, false));
    }

    /** "... with a length and a weight (0 both of a walker), and perhaps of dangerous goods, ..." */
    private static void walkersWithoutSize() {
        ArchipelagoFerries x = Worlds.ready(1, 10, 1);
        Check.refused("a walker's length", Check.ARGUMENT, () -> x.book(0, 0, 0, 1, 0, false));
        Check.refused("a walker's weight", Check.ARGUMENT, () -> x.book(0, 0, 0, 0, 1, false));
        Check.refused("a walker's dangerous goods", Check.ARGUMENT, () -> x.book(0, 0, 0, 0, 0, true));
        Check.due("a walker", 0, () -> x.book(0, 0, 0, 0, 0, false));
        for (int kind = 1; kind <= 3; kind++) {
            int k = kind;
            Check.refused("no length of " + k, Check.ARGUMENT, () -> x.book(0, 0, k, 0, 1, false));
            Check.refused("no weight of " + k, Check.ARGUMENT, () -> x.book(0, 0, k, 1, 0, false));
            Check.due("the least of " + k, 2 * k - 1, () -> x.book(0, 0, k, 1, 1, false));
            Check.due("dangerous goods of " + k, 2 * k, () -> x.book(0, 0, k, 40, 200, true));
        }
    }

    /** "It is of an islander if the person resided on one of the islands of the sailing ..." */
    private static void islanderOfEitherIsland() {
        for (int island = -1; island < 6; island++) {
            ArchipelagoFerries x = Worlds.oneShip(1, 10);
            x.plan(0, 2, 0, 10);
            x.plan(0, 5, 1, 10);
            x.reside(4, island);
            walker(x, 4, 0);
            walker(x, 4, 1);
            int from = island == 0 || island == 2 ? 10 : 20;
            int then = island == 2 || island == 5 ? 10 : 20;
            Check.due("0 to 2 from " + island, from, () -> x.paid(0));
            Check.due("2 to 5 from " + island, then, () -> x.paid(1));
        }
    }

    /** "... when it was made." */
    private static void islanderWhenItWasMade() {
        ArchipelagoFerries x = Worlds.ready(1, 10, 100);
        x.plan(0, 0, 1, 10);
        x.plan(0, 1, 2, 10);
        car(x, 1, 10, 1);
        x.reside(1, 0);
        x.reside(2, 0);
        car(x, 2, 10, 1);
        x.reside(2, -1);
        x.reside(3, 0);
        x.book(3, 2, 1, 10, 1, false);
        x.pass(1);
        sailings("who moved there later waits, who moved away is first", x, 2, 0, 2);
        x.pass(2);
        sailings("nor is one first on the next sailing", x, -1, 0, 2);
        Check.due("nothing was paid anew", 25 + 25, () -> x.account(0));
    }

    /** "The fare is 2 for a walker, 5 for a car, 8 for a van and 20 for a truck, times the distance" */
    private static void faresByKind() {
        int[] fares = {2, 5, 8, 20};
        for (int distance : new int[] {1, 2, 399, 400}) {
            for (int kind = 0; kind < 4; kind++) {
                ArchipelagoFerries x = new ArchipelagoFerries();
                x.ship(0, 1, 10, 1, 1, 1);
                x.plan(0, 1, 0, distance);
                x.book(0, 0, kind, kind == 0 ? 0 : 1, kind == 0 ? 0 : 1, false);
                int due = fares[kind] * distance;
                Check.due("kind " + kind + " over " + distance, due, () -> x.paid(0));
                Check.due("the account of kind " + kind, due, () -> x.account(0));
                Check.due("the state of kind " + kind, 0, () -> x.account(1));
            }
        }
    }

    /** "an islander pays half of it, rounded down, and the state the rest of it" */
    private static void halfRoundedDown() {
        // kind, distance, the person, the state
        int[][] rows = {{0, 1, 1, 1}, {1, 1, 2, 3}, {1, 2, 5, 5}, {1, 3, 7, 8}, {1, 399, 997, 998}, {2, 1, 4, 4},
            {3, 1, 10, 10}, {3, 400, 4000, 4000}};
        for (int[] row : rows) {
            ArchipelagoFerries x = new ArchipelagoFerries();
            x.ship(0, 1, 10, 1, 1, 1);
            x.plan(0, 1, 0, row[1]);
            x.reside(0, 1);
            x.book(0, 0, row[0], row[0] == 0 ? 0 : 1, row[0] == 0 ? 0 : 1, false);
            Check.due("the person, kind " + row[0] + " over " + row[1], row[2], () -> x.paid(0));
            Check.due("fares, kind " + row[0] + " over " + row[1], row[2], () -> x.account(0));
            Check.due("the state, kind " + row[0] + " over " + row[1], row[3], () -> x.account(1));
        }
    }

    /** "When a sailing sails it takes bookings one after the other: islanders first, then others, by their numbers." */
    private static void islandersFirstByNumbers() {
        ArchipelagoFerries x = Worlds.ready(1, 20, 100);
        x.reside(5, 0);
        x.reside(6, 1);
        int[] people = {0, 5, 1, 6, 5};
        for (int person : people) {
            car(x, person, 7, 1);
        }
        x.pass(1);
        lanes("two islanders of three, no other", x, -1, 0, -1, 0, -1);
        ArchipelagoFerries y = Worlds.ready(1, 20, 100);
        y.reside(5, 0);
        car(y, 0, 7, 1);
        car(y, 1, 7, 1);
        car(y, 5, 6, 1);
        car(y, 2, 7, 1);
        y.pass(1);
        lanes("the last one is first, then by numbers", y, 0, 0, 0, -1);
    }

    /** "A walker is taken always." */
    private static void walkersAlways() {
        ArchipelagoFerries x = Worlds.ready(1, 10, 1);
        car(x, 0, 10, 1);
        for (int i = 0; i < 38; i++) {
            walker(x, i % 10, 0);
        }
        car(x, 0, 1, 1);
        x.pass(1);
        Check.due("on a ship that is full", 39, () -> x.taken(0));
        lanes("in no lane", x, 0, -1);
        Check.due("the last one", 0, () -> x.sailingOf(38));
        Check.due("a car is not", -1, () -> x.sailingOf(39));
    }

    /** "Another one is taken, if the weights on board and its own are at most the most weight, ..." */
    private static void weightsAtMost() {
        int[][] rows = {{1, 1, 0}, {1, 2, -1}, {200, 200, 0}, {199, 200, -1}, {1000, 200, 0}};
        for (int[] row : rows) {
            ArchipelagoFerries x = Worlds.ready(1, 10, row[0]);
            car(x, 0, 1, row[1]);
            x.pass(1);
            lanes("a weight of " + row[1] + " of " + row[0], x, row[2]);
        }
        ArchipelagoFerries y = Worlds.ready(3, 40, 1000);
        for (int i = 0; i < 5; i++) {
            car(y, 0, 8, 199);
        }
        car(y, 0, 1, 6);
        car(y, 0, 1, 5);
        car(y, 0, 1, 1);
        y.pass(1);
        lanes("995 and 6 are too much, 5 are not, then 1 is", y, 1, 1, 1, 1, 1, -1, 0, -1);
    }

    /** What was not taken is not on board: neither its weight nor its length counts. */
    private static void weightsOnBoardAlone() {
        ArchipelagoFerries x = Worlds.ready(1, 20, 100);
        car(x, 0, 21, 100);
        car(x, 0, 20, 101);
        car(x, 0, 20, 100);
        x.pass(1);
        lanes("only the last one", x, -1, -1, 0);
    }

    /** "... in one of the lanes that have room for its length" */
    private static void roomForTheLength() {
        int[][] rows = {{10, 10, 0}, {10, 11, -1}, {39, 40, -1}, {40, 40, 0}, {100, 40, 0}};
        for (int[] row : rows) {
            ArchipelagoFerries x = Worlds.ready(1, row[0], 1000);
            car(x, 0, row[1], 1);
            x.pass(1);
            lanes("a length of " + row[1] + " in " + row[0], x, row[2]);
        }
        ArchipelagoFerries y = Worlds.ready(1, 100, 1000);
        int[] lengths = {40, 40, 21, 19, 2, 1, 1};
        for (int length : lengths) {
            car(y, 0, length, 1);
        }
        y.pass(1);
        lanes("to the last", y, 0, 0, -1, 0, -1, 0, -1);
        ArchipelagoFerries z = Worlds.ready(2, 10, 1000);
        car(z, 0, 6, 1);
        car(z, 0, 6, 1);
        car(z, 0, 5, 1);
        car(z, 0, 4, 1);
        z.pass(1);
        lanes("room in two lanes is not room in one", z, 0, 1, -1, 0);
    }

    /** "in that which leaves the least difference of the weights on the left and on the right, ..." */
    private static void leastDifference() {
        ArchipelagoFerries x = Worlds.ready(2, 100, 1000);
        int[] weights = {10, 9, 2, 20, 17};
        for (int weight : weights) {
            car(x, 0, 1, weight);
        }
        x.pass(1);
        // 10 left; 9 right; 1 is left over on the left, so 2 right: 1 over on the right; 20 left: 19; 17 right: 2.
        lanes("by what is left over", x, 0, 1, 1, 0, 1);
        Check.due("the difference", 2, () -> x.list(0));
        ArchipelagoFerries y = Worlds.ready(3, 10, 1000);
        car(y, 0, 10, 100);
        car(y, 0, 10, 15);
        car(y, 0, 10, 15);
        y.pass(1);
        lanes("the middle leaves the difference as it is", y, 1, 0, 2);
        ArchipelagoFerries z = Worlds.ready(3, 10, 1000);
        car(z, 0, 9, 100);
        car(z, 0, 8, 15);
        car(z, 0, 1, 15);
        z.pass(1);
        lanes("the other side is better than the middle", z, 1, 0, 2);
        ArchipelagoFerries w = Worlds.ready(2, 10, 1000);
        car(w, 0, 10, 10);
        car(w, 0, 10, 1);
        car(w, 0, 1, 1);
        w.pass(1);
        lanes("the better one is full, and so is the other", w, 0, 1, -1);
    }

    /** "... of several the lowest one" */
    private static void lowestOfSeveral() {
        for (int lanes = 1; lanes <= 4; lanes++) {
            ArchipelagoFerries x = Worlds.ready(lanes, 10, 1000);
            car(x, 0, 1, 20);
            x.pass(1);
            lanes("the first of " + lanes, x, lanes == 3 ? 1 : 0);
        }
        ArchipelagoFerries y = Worlds.ready(4, 10, 1000);
        int[] lengths = {5, 5, 5, 5, 5, 5, 5, 5, 1};
        for (int length : lengths) {
            car(y, 0, length, 7);
        }
        y.pass(1);
        lanes("of two on a side the lower, until it is full", y, 0, 2, 0, 2, 1, 3, 1, 3, -1);
    }

    /** "One of dangerous goods is taken only if there are fewer than 2 such, ..." */
    private static void fewerThanTwoDangerous() {
        ArchipelagoFerries x = Worlds.ready(4, 40, 1000);
        for (int i = 0; i < 4; i++) {
            dangerous(x, 1, 10);
        }
        car(x, 0, 1, 10);
        x.pass(1);
        lanes("two, and no third one", x, 0, 2, -1, -1, 0);
        ArchipelagoFerries y = Worlds.ready(4, 10, 1000);
        dangerous(y, 11, 1);
        dangerous(y, 10, 1);
        dangerous(y, 11, 1);
        dangerous(y, 10, 1);
        y.pass(1);
        lanes("those that are not taken do not count", y, -1, 0, -1, 2);
    }

    /** "... and only in a lane in which, and beside which, there are none such." */
    private static void noneInTheLaneNorBeside() {
        int[][] due = {{0, -1}, {0, -1}, {1, -1}, {0, 2}};
        for (int lanes = 1; lanes <= 4; lanes++) {
            ArchipelagoFerries x = Worlds.ready(lanes, 40, 1000);
            dangerous(x, 1, 10);
            dangerous(x, 1, 10);
            x.pass(1);
            lanes("two in " + lanes + " lanes", x, due[lanes - 1]);
        }
        ArchipelagoFerries outer = Worlds.ready(3, 40, 1000);
        car(outer, 0, 40, 1);
        dangerous(outer, 1, 10);
        dangerous(outer, 1, 10);
        outer.pass(1);
        lanes("the outer two of three", outer, 1, 0, 2);
        ArchipelagoFerries ends = Worlds.ready(4, 10, 1000);
        dangerous(ends, 10, 10);
        car(ends, 0, 10, 10);
        dangerous(ends, 10, 10);
        ends.pass(1);
        lanes("the first and the last of four", ends, 0, 2, 3);
        ArchipelagoFerries inner = Worlds.ready(4, 10, 1000);
        car(inner, 0, 10, 10);
        dangerous(inner, 10, 10);
        dangerous(inner, 10, 10);
        inner.pass(1);
        lanes("neither beside it below nor above", inner, 0, 2, -1);
        ArchipelagoFerries last = Worlds.ready(4, 10, 1000);
        car(last, 0, 10, 10);
        car(last, 0, 10, 10);
        dangerous(last, 10, 10);
        dangerous(last, 10, 10);
        last.pass(1);
        lanes("the second and the last of four", last, 0, 2, 1, 3);
        ArchipelagoFerries down = Worlds.ready(4, 10, 1000);
        car(down, 0, 9, 10);
        dangerous(down, 10, 10);
        dangerous(down, 1, 10);
        down.pass(1);
        lanes("a lane between them is enough from above too", down, 0, 2, 0);
    }

    /** It is dangerous goods alone that keep away from dangerous goods. */
    private static void othersMayLieBesideDangerous() {
        ArchipelagoFerries x = Worlds.ready(2, 40, 1000);
        dangerous(x, 1, 10);
        car(x, 0, 1, 10);
        car(x, 0, 1, 10);
        x.pass(1);
        lanes("beside it and in its lane", x, 0, 1, 0);
        ArchipelagoFerries y = Worlds.ready(1, 40, 1000);
        car(y, 0, 1, 10);
        dangerous(y, 1, 10);
        y.pass(1);
        lanes("and it lies with others", y, 0, 0);
    }

    /** "Behind the last one, as long as the difference is above 20, ..." */
    private static void differenceAboveTwenty() {
        for (int weight = 19; weight <= 21; weight++) {
            ArchipelagoFerries left = Worlds.ready(2, 10, 1000);
            car(left, 0, 1, weight);
            left.pass(1);
            lanes(weight + " on the left", left, weight > 20 ? -1 : 0);
            int due = weight > 20 ? 0 : weight;
            Check.due(weight + " on the left", due, () -> left.list(0));
            ArchipelagoFerries right = Worlds.ready(2, 10, 1000);
            car(right, 0, 10, 10);
            car(right, 0, 1, weight + 10);
            right.pass(1);
            lanes(weight + " on the right", right, 0, weight > 20 ? -1 : 1);
            Check.due(weight + " on the right", weight > 20 ? 10 : -weight, () -> right.list(0));
        }
        ArchipelagoFerries until = Worlds.ready(2, 10, 1000);
        car(until, 0, 1, 100);
        car(until, 0, 1, 95);
        until.pass(1);
        lanes("behind the last one, not ahead", until, 0, 1);
        Check.due("5 at last", 5, () -> until.list(0));
    }

    /** "... the last one that was taken on the heavier side is put off again." */
    private static void lastOnTheHeavierSide() {
        ArchipelagoFerries x = Worlds.ready(2, 40, 1000);
        x.reside(9, 0);
        car(x, 0, 4, 15);
        car(x, 0, 4, 15);
        car(x, 9, 40, 10);
        car(x, 0, 4, 15);
        car(x, 9, 4, 10);
        x.pass(1);
        // Islanders: 10 left, which is full, then 10 right; others: 15 right three times, of which two are put off.
        lanes("the last ones by turns, not by numbers", x, 1, -1, 0, -1, 1);
        Check.due("until it is 20 or less", -15, () -> x.list(0));
        Check.due("taken", 3, () -> x.taken(0));
        ArchipelagoFerries y = Worlds.ready(2, 40, 1000);
        y.reside(9, 0);
        car(y, 9, 30, 50);
        car(y, 9, 40, 50);
        car(y, 0, 10, 30);
        y.pass(1);
        lanes("the last one on the heavier side, though another was taken behind", y, 0, 1, -1);
        ArchipelagoFerries z = Worlds.ready(2, 40, 1000);
        car(z, 0, 40, 60);
        car(z, 0, 10, 10);
        z.pass(1);
        lanes("not the last one of all, on the lighter side", z, -1, 1);
    }

    /** The heavier side is found anew each time. */
    private static void heavierSideChanges() {
        ArchipelagoFerries x = Worlds.ready(2, 40, 1000);
        car(x, 0, 10, 100);
        car(x, 0, 40, 70);
        x.pass(1);
        lanes("100 on the left, then 70 on the right", x, -1, -1);
        Check.due("none is left", 0, () -> x.list(0));
        Check.due("none is left", 0, () -> x.taken(0));
        Check.due("it sails all the same", 2, () -> x.state(0));
    }

    /** Walkers are in no lane, and the middle is on no side. */
    private static void onlyThoseOnASideArePutOff() {
        ArchipelagoFerries x = Worlds.ready(3, 40, 1000);
        car(x, 0, 40, 200);
        car(x, 0, 40, 100);
        walker(x, 0, 0);
        x.pass(1);
        lanes("the middle stays, the left goes", x, 1, -1, -1);
        sailings("the walker stays", x, 0, -1, 0);
        ArchipelagoFerries y = Worlds.ready(1, 40, 1000);
        car(y, 0, 40, 200);
        y.pass(1);
        lanes("one lane is the middle", y, 0);
        for (int more = 0; more <= 1; more++) {
            ArchipelagoFerries z = Worlds.ready(3, 40, 1000);
            car(z, 0, 30, 1);
            car(z, 0, 40, more == 0 ? 50 : 10);
            car(z, 0, 40, more == 0 ? 10 : 50);
            car(z, 0, 10, 5);
            z.pass(1);
            lanes("nor the last one of all, if it is in the middle", z, 1, more == 0 ? -1 : 0, more == 0 ? 2 : -1, 1);
        }
    }

    /** One that was not taken cannot be put off, and the least weight on the heavier side can. */
    private static void onlyThoseOnBoardArePutOff() {
        ArchipelagoFerries x = Worlds.ready(2, 10, 1000);
        car(x, 0, 11, 15);
        car(x, 0, 10, 30);
        x.pass(1);
        lanes("the one on board", x, -1, -1);
        Check.due("the one on board", 0, () -> x.list(0));
        for (int side = 0; side <= 1; side++) {
            ArchipelagoFerries y = Worlds.ready(2, 40, 1000);
            car(y, 0, side == 0 ? 10 : 40, side == 0 ? 30 : 8);
            car(y, 0, side == 0 ? 40 : 10, side == 0 ? 8 : 30);
            car(y, 0, 1, 1);
            y.pass(1);
            lanes("a weight of 1 first", y, side == 0 ? -1 : 0, side == 0 ? 1 : -1, -1);
            Check.due("then 30", side == 0 ? -8 : 8, () -> y.list(0));
        }
    }

    /** What lay on board of one sailing is not on board of the next. */
    private static void eachSailingBeginsEmpty() {
        ArchipelagoFerries x = Worlds.ready(4, 10, 40);
        x.plan(0, 0, 5, 10);
        for (int sailing = 0; sailing <= 1; sailing++) {
            x.book(0, sailing, 1, 10, 10, true);
            x.book(0, sailing, 1, 10, 10, true);
            x.book(0, sailing, 1, 10, 15, false);
            x.book(0, sailing, 1, 10, 5, false);
        }
        x.pass(6);
        lanes("the same twice", x, 0, 2, 1, 3, 0, 2, 1, 3);
        for (int sailing = 0; sailing <= 1; sailing++) {
            int asked = sailing;
            Check.due("4 on each", 4, () -> x.taken(asked));
            Check.due("10 over on each", 10, () -> x.list(asked));
        }
    }

    /** "A booking that is not taken, ... goes over ... to the sailing from the same island to the same one ..." */
    private static void notTakenGoesOver() {
        ArchipelagoFerries x = fleet(0, 5);
        car(x, 0, 10, 1);
        car(x, 0, 10, 1);
        car(x, 0, 11, 1);
        x.pass(1);
        sailings("those without room", x, 0, 1, 1);
        Check.due("they are not taken yet", 0, () -> x.taken(1));
        x.pass(5);
        sailings("taken there, or paid back", x, 0, 1, -1);
        ArchipelagoFerries y = new ArchipelagoFerries();
        for (int ship = 0; ship < 2; ship++) {
            y.ship(0, 2, 40, 1000, 1, 10);
            y.fill(ship, 10);
            y.crew(ship, 0, 0);
            y.plan(ship, 1, ship, 10);
        }
        car(y, 0, 1, 50);
        y.book(0, 1, 1, 1, 45, false);
        y.pass(1);
        sailings("one that is put off", y, 1, 1);
        y.pass(1);
        lanes("and is taken there", y, 0, 1);
    }

    /** "... or whose sailing is cancelled, goes over": by cancel(), or when its hour comes */
    private static void cancelledGoesOver() {
        ArchipelagoFerries x = fleet(0, 5);
        walker(x, 0, 0);
        x.cancel(0);
        sailings("cancelled by cancel()", x, 1);
        ArchipelagoFerries y = fleet(0, 5);
        y.hinder(0, 0, 0, 0);
        walker(y, 0, 0);
        y.pass(1);
        sailings("cancelled by a storm", y, 1);
    }

    /** "... with its fare, ..." */
    private static void goesOverWithItsFare() {
        ArchipelagoFerries x = fleet(3, 5);
        x.reside(1, 0);
        walker(x, 0, 0);
        walker(x, 1, 0);
        x.reside(1, -1);
        x.reside(0, 0);
        x.cancel(0);
        sailings("over a greater distance", x, 1, 1);
        Check.due("the same fare", 20, () -> x.paid(0));
        Check.due("the same half of it", 10, () -> x.paid(1));
        Check.due("fares", 30, () -> x.account(0));
        Check.due("state", 10, () -> x.account(1));
        Check.due("fares anew", 30, () -> x.accountAnew(0));
        Check.due("state anew", 10, () -> x.accountAnew(1));
    }

    /** "... that is PLANNED and begins first, ..." */
    private static void toTheOneThatBeginsFirst() {
        ArchipelagoFerries x = fleet(9, 8, 3, 5);
        walker(x, 0, 0);
        x.cancel(0);
        sailings("the first by hours, not by numbers, ahead of its own too", x, 2);
        ArchipelagoFerries y = fleet(9, 8, 10000, 9999);
        walker(y, 0, 0);
        y.cancel(1);
        y.cancel(3);
        y.cancel(0);
        sailings("in the last hour there is", y, 2);
        ArchipelagoFerries w = fleet(1, 9);
        walker(w, 0, 1);
        w.cancel(1);
        sailings("the first number of all", w, 0);
        ArchipelagoFerries z = fleet(2, 2);
        z.hinder(0, 0, 2, 2);
        walker(z, 0, 0);
        z.pass(3);
        sailings("one of the same hour that comes next, which is cancelled as well", z, -1);
    }

    /** "... of several the lowest one" */
    private static void toTheLowestOfSeveral() {
        ArchipelagoFerries x = fleet(9, 7, 7, 7);
        walker(x, 0, 0);
        walker(x, 0, 2);
        x.cancel(0);
        sailings("the lowest", x, 1, 2);
        x.cancel(1);
        sailings("then the next", x, 2, 2);
        x.cancel(2);
        sailings("then the last, but for the one whose third time it is", x, -1, 3);
    }

    /** "from the same island to the same one" */
    private static void toOneOfTheSameIslands() {
        ArchipelagoFerries x = new ArchipelagoFerries();
        for (int ship = 0; ship < 4; ship++) {
            x.ship(ship == 2 ? 1 : 0, 1, 10, 1, 1, 10);
        }
        x.plan(0, 1, 5, 10);
        x.plan(1, 2, 1, 10);
        x.plan(2, 0, 1, 10);
        x.plan(2, 2, 2, 10);
        walker(x, 0, 0);
        x.plan(3, 1, 9, 10);
        walker(x, 0, 0);
        x.cancel(0);
        sailings("neither back, nor from elsewhere, nor to elsewhere", x, 4, 4);
        x.cancel(4);
        sailings("without one", x, -1, -1);
    }

    /** "that is PLANNED" */
    private static void toOneThatIsPlanned() {
        ArchipelagoFerries x = fleet(1, 1, 4);
        x.cancel(1);
        walker(x, 0, 2);
        x.pass(2);
        Check.due("one sailed", 2, () -> x.state(0));
        x.cancel(2);
        sailings("neither one that sailed nor one that was cancelled", x, -1);
    }

    /** "without one, ... it is paid back" */
    private static void withoutOnePaidBack() {
        ArchipelagoFerries x = fleet(3);
        walker(x, 0, 0);
        Check.due("one is paid back", 1, () -> x.cancel(0));
        sailings("without one", x, -1);
        Check.due("paid", 0, () -> x.paid(0));
        x.plan(0, 1, 3, 10);
        sailings("a sailing that is planned later comes too late", x, -1);
        x.pass(4);
        Check.due("it takes none", 0, () -> x.taken(1));
        Check.due("fares", 0, () -> x.account(0));
    }

    /** "... or at the third time, it is paid back" */
    private static void thirdTimePaidBack() {
        ArchipelagoFerries x = fleet(0, 1, 2, 3);
        walker(x, 0, 0);
        walker(x, 0, 1);
        x.cancel(0);
        sailings("the first time", x, 1, 1);
        x.cancel(1);
        sailings("the second time, the other's first", x, 2, 2);
        Check.due("both are still paid", 20 + 40, () -> x.account(0));
        Check.due("of both", 2, () -> x.cancel(2));
        sailings("the third time, the other's second", x, -1, 3);
        Check.due("only one is still paid", 40, () -> x.account(0));
        Check.due("paid back", 0, () -> x.paid(0));
        Check.due("not paid back", 40, () -> x.paid(1));
        x.pass(4);
        Check.due("the other one is taken", 1, () -> x.taken(3));
    }

    /** "what the person paid to the person, what the state paid to the state" */
    private static void bothArePaidBack() {
        ArchipelagoFerries x = fleet(3, 4);
        x.plan(0, 0, 8, 10);
        x.reside(1, 1);
        x.book(1, 0, 1, 1, 1, false);
        x.book(0, 0, 1, 1, 1, false);
        x.book(1, 2, 2, 1, 1, false);
        x.cancel(1);
        Check.due("fares ahead", 25 + 50 + 40, () -> x.account(0));
        Check.due("state ahead", 25 + 40, () -> x.account(1));
        x.cancel(0);
        for (int line = 0; line <= 1; line++) {
            int asked = line;
            Check.due("the other one's is kept, line " + line, 40, () -> x.account(asked));
            Check.due("and found, line " + line, 40, () -> x.accountAnew(asked));
        }
        for (int booking = 0; booking < 3; booking++) {
            int asked = booking;
            Check.due("paid for " + booking, booking == 2 ? 40 : 0, () -> x.paid(asked));
        }
    }

    /** "(Bookings of one sailing do so by their numbers.)" */
    private static void allOfOneSailing() {
        ArchipelagoFerries x = fleet(0, 5);
        for (int booking = 0; booking < 40; booking++) {
            walker(x, booking % 10, booking % 2);
        }
        Check.due("20 go over", 20, () -> x.cancel(0));
        for (int booking = 0; booking < 40; booking++) {
            int asked = booking;
            Check.due("of booking " + booking, 1, () -> x.sailingOf(asked));
        }
        Check.due("all 40 are paid back", 40, () -> x.cancel(1));
        Check.due("nothing is left", 0, () -> x.account(0));
        ArchipelagoFerries y = fleet(0, 5);
        for (int i = 0; i < 3; i++) {
            car(y, 0, 10, 1);
        }
        y.pass(6);
        sailings("the lower number is taken first behind too", y, 0, 1, -1);
    }

    /** A sailing without any booking. */
    private static void emptySailing() {
        ArchipelagoFerries x = fleet(0, 5);
        x.pass(1);
        Check.due("it sails", 2, () -> x.state(0));
        Check.due("it takes none", 0, () -> x.taken(0));
        Check.due("it is even", 0, () -> x.list(0));
        Check.due("none goes over", 0, () -> x.cancel(1));
    }
}
