/** Promises 21 to 28, and what is told of bookings under Terms. */
public final class BookingsTest {
    public static void main(String[] args) {
        book();
        bookMost();
        fares();
        islandersWhenBooked();
        islandersFirst();
        lanesKeptEven();
        lanesInTheMiddle();
        lengthsAndWeights();
        dangerousGoods();
        putOff();
        putOffOnTheRight();
        goingOver();
        goingOverToTheFirst();
        goingOverToTheEnds();
        eachSailingAnew();
        theThirdTime();
        asked();
        accounts();
        Check.end();
    }

    private static void lanes(String what, ArchipelagoFerries x, int... due) {
        for (int i = 0; i < due.length; i++) {
            int asked = i;
            Check.due(what + ", booking " + i, due[i], () -> x.lane(asked));
        }
    }

    private static void book() {
        ArchipelagoFerries x = Worlds.ready(1, 10, 1);
        Check.refused("21 person -1", Check.OUT_OF_BOUNDS, () -> x.book(-1, 0, 9, 0, 0, false));
        Check.refused("21 person 10", Check.OUT_OF_BOUNDS, () -> x.book(10, 0, 0, 0, 0, false));
        Check.refused("21 sailing -1", Check.OUT_OF_BOUNDS, () -> x.book(0, -1, 0, 0, 0, false));
        Check.refused("21 sailing 1", Check.OUT_OF_BOUNDS, () -> x.book(0, 1, 9, 0, 0, false));
        int[][] wrongOnes = {{-1, 1, 1}, {4, 1, 1}, {0, 1, 0}, {0, 0, 1}, {0, -1, 0}, {1, 0, 1}, {1, 41, 1}, {1, 1, 0},
            {1, 1, 201}, {2, 0, 0}, {2, 40, 201}, {3, 0, 200}, {3, 41, 200}};
        for (int[] a : wrongOnes) {
            Check.refused("21 out of range", Check.ARGUMENT, () -> x.book(0, 0, a[0], a[1], a[2], false));
        }
        Check.refused("21 a dangerous walker", Check.ARGUMENT, () -> x.book(0, 0, 0, 0, 0, true));
        Check.due("21 nothing is paid by wrong ones", 0, () -> x.account(0));
        Check.due("21 a walker", 0, () -> x.book(0, 0, 0, 0, 0, false));
        Check.due("21 the least", 1, () -> x.book(9, 0, 1, 1, 1, true));
        Check.due("21 the most", 2, () -> x.book(0, 0, 2, 40, 200, false));
        Check.due("21 a truck", 3, () -> x.book(0, 0, 3, 40, 200, true));
        x.pass(1);
        Check.refused("21 sailed", Check.STATE, () -> x.book(0, 0, 0, 0, 0, false));
        Check.refused("21 sailed, wrong", Check.ARGUMENT, () -> x.book(0, 0, 0, 0, 1, false));
        x.cancel(x.plan(0, 0, 9, 10));
        Check.refused("21 cancelled", Check.STATE, () -> x.book(0, 1, 0, 0, 0, false));
    }

    private static void bookMost() {
        ArchipelagoFerries x = Worlds.ready(1, 10, 1);
        for (int i = 0; i < 40; i++) {
            Check.due("21 number", i, () -> x.book(0, 0, 0, 0, 0, false));
        }
        Check.refused("21 the 41st", Check.STATE, () -> x.book(0, 0, 0, 0, 0, false));
        Check.refused("21 the 41st, wrong", Check.ARGUMENT, () -> x.book(0, 0, 0, 0, 0, true));
        x.cancel(0);
        x.plan(0, 1, 0, 10);
        Check.refused("21 those paid back count", Check.STATE, () -> x.book(0, 1, 0, 0, 0, false));
        Check.due("21 nothing is paid by the 41st", 0, () -> x.account(0));
    }

    private static void fares() {
        int[] fares = {14, 35, 56, 140};
        for (int kind = 0; kind < 4; kind++) {
            ArchipelagoFerries x = new ArchipelagoFerries();
            x.ship(0, 1, 10, 1, 1, 10);
            x.plan(0, 1, 0, 7);
            x.reside(1, 0);
            x.reside(2, 1);
            x.reside(3, 2);
            int size = kind == 0 ? 0 : 1;
            for (int person = 0; person < 4; person++) {
                x.book(person, 0, kind, size, size, false);
            }
            int whole = fares[kind];
            Check.due("24 of no island", whole, () -> x.paid(0));
            Check.due("24 from there", whole / 2, () -> x.paid(1));
            Check.due("24 to there", whole / 2, () -> x.paid(2));
            Check.due("24 from elsewhere", whole, () -> x.paid(3));
            Check.due("27 fares", 2 * whole + 2 * (whole / 2), () -> x.account(0));
            Check.due("27 state", 2 * (whole - whole / 2), () -> x.account(1));
            Check.due("28 fares", 2 * whole + 2 * (whole / 2), () -> x.accountAnew(0));
            Check.due("28 state", 2 * (whole - whole / 2), () -> x.accountAnew(1));
        }
    }

    private static void islandersWhenBooked() {
        ArchipelagoFerries x = Worlds.ready(1, 10, 100);
        x.book(1, 0, 1, 10, 1, false);
        x.reside(1, 0);
        x.reside(2, 1);
        x.book(2, 0, 1, 10, 1, false);
        x.reside(2, -1);
        Check.due("21 paid as booked", 50, () -> x.paid(0));
        Check.due("21 paid as booked", 25, () -> x.paid(1));
        x.pass(1);
        Check.due("21 an islander later on is none", -1, () -> x.sailingOf(0));
        Check.due("21 an islander then is one", 0, () -> x.sailingOf(1));
    }

    private static void islandersFirst() {
        ArchipelagoFerries x = Worlds.ready(1, 20, 100);
        x.reside(5, 0);
        x.reside(6, 1);
        x.book(0, 0, 1, 10, 1, false);
        x.book(1, 0, 1, 10, 1, false);
        x.book(5, 0, 1, 5, 1, false);
        x.book(6, 0, 1, 5, 1, false);
        x.pass(1);
        lanes("23 islanders first", x, 0, -1, 0, 0);
        Check.due("25 taken", 3, () -> x.taken(0));
    }

    private static void lanesKeptEven() {
        ArchipelagoFerries x = Worlds.ready(2, 100, 1000);
        int[] weights = {30, 10, 10, 10, 5, 5};
        for (int weight : weights) {
            x.book(0, 0, 1, 1, weight, false);
        }
        x.pass(1);
        // 30 | 10 | 20 | 30, then even, so the lowest one, then the right one again.
        lanes("23 kept even", x, 0, 1, 1, 1, 0, 1);
        Check.due("26 even", 0, () -> x.list(0));
        ArchipelagoFerries y = Worlds.ready(4, 10, 1000);
        for (int i = 0; i < 4; i++) {
            y.book(0, 0, 1, 10, 10 + i, false);
        }
        y.pass(1);
        // Two lanes of four lie on each side; full ones are passed over.
        lanes("23 four lanes", y, 0, 2, 1, 3);
        Check.due("26 four lanes", 10 + 12 - 11 - 13, () -> y.list(0));
    }

    private static void lanesInTheMiddle() {
        ArchipelagoFerries x = Worlds.ready(3, 20, 1000);
        x.book(0, 0, 1, 10, 200, false);
        x.book(0, 0, 1, 10, 7, false);
        x.book(0, 0, 1, 20, 6, false);
        x.book(0, 0, 1, 20, 9, false);
        x.book(0, 0, 1, 1, 1, false);
        x.pass(1);
        // What lies in the middle weighs on no side; only when it is full are the left and then the right taken.
        lanes("23 three lanes", x, 1, 1, 0, 2, -1);
        Check.due("26 three lanes", -3, () -> x.list(0));
        ArchipelagoFerries y = Worlds.ready(1, 20, 1000);
        y.book(0, 0, 1, 10, 200, false);
        y.book(0, 0, 1, 10, 200, false);
        y.pass(1);
        lanes("23 one lane", y, 0, 0);
        Check.due("26 one lane", 0, () -> y.list(0));
    }

    private static void lengthsAndWeights() {
        ArchipelagoFerries x = Worlds.ready(1, 30, 50);
        x.book(0, 0, 1, 31, 1, false);
        x.book(0, 0, 1, 1, 51, false);
        x.book(0, 0, 1, 20, 30, false);
        x.book(0, 0, 1, 11, 1, false);
        x.book(0, 0, 1, 1, 21, false);
        x.book(0, 0, 1, 10, 20, false);
        x.book(0, 0, 0, 0, 0, false);
        x.pass(1);
        lanes("23 lengths and weights", x, -1, -1, 0, -1, -1, 0, -1);
        Check.due("25 walkers are taken always", 3, () -> x.taken(0));
        Check.due("22 the walker", 0, () -> x.sailingOf(6));
    }

    private static void dangerousGoods() {
        ArchipelagoFerries two = Worlds.ready(2, 40, 1000);
        two.book(0, 0, 1, 1, 1, true);
        two.book(0, 0, 1, 1, 1, true);
        two.book(0, 0, 1, 1, 1, false);
        two.pass(1);
        lanes("23 beside", two, 0, -1, 1);
        ArchipelagoFerries three = Worlds.ready(3, 40, 1000);
        three.book(0, 0, 1, 40, 10, false);
        three.book(0, 0, 1, 1, 10, true);
        three.book(0, 0, 1, 1, 10, true);
        three.pass(1);
        // The first fills the middle; the next lies on the left, and two lanes on, on the right, the last.
        lanes("23 three lanes", three, 1, 0, 2);
        ArchipelagoFerries middle = Worlds.ready(3, 40, 1000);
        middle.book(0, 0, 1, 1, 30, true);
        middle.book(0, 0, 1, 1, 1, true);
        middle.pass(1);
        lanes("23 beside the middle", middle, 1, -1);
        ArchipelagoFerries four = Worlds.ready(4, 40, 1000);
        four.book(0, 0, 1, 1, 10, true);
        four.book(0, 0, 1, 1, 10, true);
        four.book(0, 0, 1, 1, 10, true);
        four.book(0, 0, 1, 1, 10, false);
        four.pass(1);
        lanes("23 at most two", four, 0, 2, -1, 0);
        ArchipelagoFerries best = Worlds.ready(4, 40, 1000);
        best.book(0, 0, 1, 1, 10, false);
        best.book(0, 0, 1, 1, 10, true);
        best.book(0, 0, 1, 1, 10, true);
        best.pass(1);
        // The second goes to the right, into the lane 2, where the third may be neither in 1, 2 nor 3.
        lanes("23 not in the best", best, 0, 2, 0);
        // The lanes 0 and 3 hold one each by lengths: no lane is free of both.
        ArchipelagoFerries full = Worlds.ready(4, 10, 1000);
        full.book(0, 0, 1, 10, 15, true);
        full.book(0, 0, 1, 10, 15, false);
        full.book(0, 0, 1, 10, 15, true);
        full.pass(1);
        lanes("23 a farther lane", full, 0, 2, 3);
    }

    private static void putOff() {
        ArchipelagoFerries x = Worlds.ready(2, 40, 1000);
        x.book(0, 0, 1, 40, 50, false);
        x.book(0, 0, 1, 30, 10, false);
        x.book(0, 0, 1, 11, 10, false);
        x.book(0, 0, 0, 0, 0, false);
        x.pass(1);
        // 50 on the left and 10 on the right: the first is put off; then 10 on the right is even enough.
        lanes("23 put off", x, -1, 1, -1, -1);
        Check.due("26 put off", -10, () -> x.list(0));
        Check.due("25 put off", 2, () -> x.taken(0));
        Check.due("22 put off and paid back", -1, () -> x.sailingOf(0));
        ArchipelagoFerries edge = Worlds.ready(2, 40, 1000);
        edge.book(0, 0, 1, 40, 20, false);
        edge.pass(1);
        Check.due("26 20 is not above 20", 20, () -> edge.list(0));
        ArchipelagoFerries above = Worlds.ready(2, 40, 1000);
        above.book(0, 0, 1, 40, 21, false);
        above.pass(1);
        Check.due("26 21 is above 20", 0, () -> above.list(0));
        Check.due("25 the ship sails empty", 0, () -> above.taken(0));
        Check.due("15 the ship sails empty", 2, () -> above.state(0));
    }

    /** The last one taken is meant, which is an islander's only if no other one is there. */
    private static void putOffOnTheRight() {
        ArchipelagoFerries x = Worlds.ready(2, 40, 1000);
        x.reside(1, 0);
        x.book(0, 0, 1, 1, 100, false);
        x.book(0, 0, 1, 10, 60, false);
        x.book(1, 0, 1, 40, 70, false);
        x.book(1, 0, 1, 10, 80, false);
        x.book(1, 0, 1, 25, 40, false);
        x.pass(1);
        // Islanders: 70 left, 80 right, 40 right (the left one is full). Others: 100 right, 60 without room.
        // The difference is 70 - 220; 100 goes, then 70 - 120 is above 20 still; 40 goes.
        lanes("23 put off on the right", x, -1, -1, 0, 1, -1);
        Check.due("26 put off on the right", -10, () -> x.list(0));
    }

    private static void goingOver() {
        ArchipelagoFerries x = Worlds.ready(1, 10, 1000);
        x.plan(0, 0, 4, 10);
        x.plan(0, 1, 8, 30);
        x.reside(1, 1);
        x.book(0, 0, 1, 10, 1, false);
        x.book(1, 0, 1, 10, 1, false);
        x.book(0, 1, 0, 0, 0, false);
        x.pass(1);
        Check.due("22 over", 2, () -> x.sailingOf(0));
        Check.due("24 with its fare", 50, () -> x.paid(0));
        Check.due("22 the islander's", 0, () -> x.sailingOf(1));
        Check.due("25 waits", 0, () -> x.taken(2));
        x.pass(8);
        Check.due("22 taken", 2, () -> x.sailingOf(0));
        Check.due("23 taken", 0, () -> x.lane(0));
        Check.due("25 taken", 1, () -> x.taken(2));
        Check.due("25 the first", 1, () -> x.taken(0));
        Check.due("25 the second", 1, () -> x.taken(1));
        Check.due("27 nothing is paid anew", 95, () -> x.account(0));
        Check.due("27 nothing is paid anew", 25, () -> x.account(1));
    }

    /** Ahead of others by its hour, of several with one hour by its number; and only one of the same two islands. */
    private static void goingOverToTheFirst() {
        ArchipelagoFerries x = new ArchipelagoFerries();
        for (int i = 0; i < 4; i++) {
            x.ship(i == 3 ? 1 : 0, 1, 10, 1, 1, 10);
        }
        x.plan(0, 1, 20, 10);
        x.plan(1, 1, 9, 10);
        x.plan(2, 1, 9, 10);
        x.plan(3, 0, 1, 10);
        x.plan(3, 2, 3, 10);
        x.plan(0, 0, 21, 10);
        x.plan(0, 2, 30, 10);
        x.plan(2, 2, 15, 10);
        x.book(0, 0, 0, 0, 0, false);
        x.book(0, 6, 0, 0, 0, false);
        Check.due("11 to the first", 1, () -> x.cancel(0));
        Check.due("22 to an earlier one, the lower", 1, () -> x.sailingOf(0));
        x.cancel(1);
        Check.due("22 to the other one", 2, () -> x.sailingOf(0));
        x.cancel(6);
        Check.due("22 0 to 2 by another ship", 4, () -> x.sailingOf(1));
        x.cancel(4);
        Check.due("22 1 to 2 does not count", -1, () -> x.sailingOf(1));
    }

    private static void goingOverToTheEnds() {
        ArchipelagoFerries x = new ArchipelagoFerries();
        x.ship(0, 1, 10, 1, 1, 10);
        x.ship(0, 1, 10, 1, 1, 10);
        x.plan(0, 1, 10000, 10);
        x.plan(1, 1, 0, 10);
        x.book(0, 1, 0, 0, 0, false);
        x.cancel(1);
        Check.due("22 to the lowest number, in the last hour", 0, () -> x.sailingOf(0));
    }

    /** What one sailing takes leaves no trace in the next. */
    private static void eachSailingAnew() {
        ArchipelagoFerries x = Worlds.ready(2, 20, 100);
        x.plan(0, 0, 4, 10);
        x.plan(0, 1, 8, 10);
        for (int sailing = 0; sailing < 3; sailing++) {
            x.book(0, sailing, 1, 20, 45, true);
            x.book(0, sailing, 1, 20, 35, false);
            x.book(0, sailing, 1, 1, 20, false);
        }
        x.pass(12);
        // The third of the first sailing goes over to the third sailing, and takes the left lane there.
        lanes("23 each anew", x, 0, 1, 0, 0, 1, -1, 1, -1, 0);
        for (int sailing = 0; sailing < 2; sailing++) {
            int asked = sailing;
            Check.due("25 each anew", 2, () -> x.taken(asked));
            Check.due("26 each anew", 10, () -> x.list(asked));
        }
        Check.due("25 the last", 3, () -> x.taken(2));
        Check.due("26 the last", -5, () -> x.list(2));
    }

    private static void theThirdTime() {
        ArchipelagoFerries x = new ArchipelagoFerries();
        for (int i = 0; i < 4; i++) {
            x.ship(0, 1, 10, 1, 1, 10);
            x.plan(i, 1, i, 10);
        }
        x.reside(3, 0);
        x.book(3, 0, 2, 1, 1, false);
        x.cancel(0);
        Check.due("22 the first time", 1, () -> x.sailingOf(0));
        x.pass(2);
        Check.due("22 the second time", 2, () -> x.sailingOf(0));
        Check.due("24 until then", 40, () -> x.paid(0));
        Check.due("11 the third time", 1, () -> x.cancel(2));
        Check.due("22 the third time", -1, () -> x.sailingOf(0));
        Check.due("24 paid back", 0, () -> x.paid(0));
        Check.due("27 paid back", 0, () -> x.account(0));
        Check.due("27 paid back", 0, () -> x.account(1));
        Check.due("28 paid back", 0, () -> x.accountAnew(0));
        Check.due("28 paid back", 0, () -> x.accountAnew(1));
        Check.due("11 none is left", 0, () -> x.cancel(3));
    }

    private static void asked() {
        ArchipelagoFerries x = Worlds.ready(2, 10, 1000);
        for (int number : new int[] {-1, 1, Integer.MAX_VALUE, Integer.MIN_VALUE}) {
            Check.refused("22 no booking", Check.OUT_OF_BOUNDS, () -> x.sailingOf(number));
            Check.refused("23 no booking", Check.OUT_OF_BOUNDS, () -> x.lane(number));
            Check.refused("24 no booking", Check.OUT_OF_BOUNDS, () -> x.paid(number));
            Check.refused("25 no sailing", Check.OUT_OF_BOUNDS, () -> x.taken(number));
            Check.refused("26 no sailing", Check.OUT_OF_BOUNDS, () -> x.list(number));
        }
        x.book(0, 0, 1, 1, 15, false);
        Check.refused("22 one booking", Check.OUT_OF_BOUNDS, () -> x.sailingOf(1));
        Check.due("22 waits", 0, () -> x.sailingOf(0));
        Check.due("23 waits", -1, () -> x.lane(0));
        Check.due("25 waits", 0, () -> x.taken(0));
        Check.refused("26 planned", Check.NO_ELEMENT, () -> x.list(0));
        x.pass(1);
        Check.due("22 taken", 0, () -> x.sailingOf(0));
        Check.due("23 taken", 0, () -> x.lane(0));
        Check.due("25 taken", 1, () -> x.taken(0));
        Check.due("26 sailed", 15, () -> x.list(0));
        x.cancel(x.plan(0, 0, 5, 10));
        Check.refused("26 cancelled", Check.NO_ELEMENT, () -> x.list(1));
        Check.due("25 cancelled", 0, () -> x.taken(1));
    }

    private static void accounts() {
        ArchipelagoFerries x = Worlds.ready(1, 10, 1);
        for (int line : new int[] {-1, 3, Integer.MIN_VALUE, Integer.MAX_VALUE}) {
            Check.refused("27 line " + line, Check.ARGUMENT, () -> x.account(line));
            Check.refused("28 line " + line, Check.ARGUMENT, () -> x.accountAnew(line));
        }
        Check.refused("28 FUEL", Check.ARGUMENT, () -> x.accountAnew(2));
        x.reside(0, 1);
        x.book(0, 0, 1, 10, 1, false);
        x.book(1, 0, 3, 10, 1, false);
        Check.due("27 fares", 225, () -> x.account(0));
        Check.due("27 state", 25, () -> x.account(1));
        Check.due("27 fuel", -3000, () -> x.account(2));
        x.pass(1);
        Check.due("27 fares", 25, () -> x.account(0));
        Check.due("27 state", 25, () -> x.account(1));
        Check.due("28 fares", 25, () -> x.accountAnew(0));
        Check.due("28 state", 25, () -> x.accountAnew(1));
        Check.due("27 fuel that is burnt costs nothing more", -3000, () -> x.account(2));
    }
}
