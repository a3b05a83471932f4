/** Objects that several tests begin with. */
final class Worlds {
    private Worlds() {
    }

    /** One ship at the island 0 that sails to the island 1 in hour 0, with the number 0. */
    static ArchipelagoFerries ready(int lanes, int length, int weight) {
        ArchipelagoFerries x = new ArchipelagoFerries();
        x.ship(0, lanes, length, weight, 1, 10);
        x.fill(0, 1000);
        x.crew(0, 0, 500);
        x.plan(0, 1, 0, 10);
        return x;
    }

    /** Ships at the islands 0 and 1, both with fuel, and a crew each. */
    static ArchipelagoFerries twoShips() {
        ArchipelagoFerries x = new ArchipelagoFerries();
        x.ship(0, 2, 50, 500, 1, 10);
        x.ship(1, 2, 50, 500, 1, 10);
        x.fill(0, 1000);
        x.fill(1, 1000);
        x.crew(0, 0, 500);
        x.crew(1, 0, 500);
        return x;
    }

    /** One ship without lanes to speak of, with fuel and a crew, at the island 0. */
    static ArchipelagoFerries oneShip(int draught, int speed) {
        ArchipelagoFerries x = new ArchipelagoFerries();
        x.ship(0, 1, 10, 1, draught, speed);
        x.fill(0, 1000);
        x.crew(0, 0, 500);
        return x;
    }

    /**
     * Some of everything, in hour 5: 0 sailed, 1 is at sea, 2 is planned for hour 9, 3 was cancelled, 4 was cancelled
     * and replaced by 5, which is planned for now, and 6 is planned for hour 12.
     */
    static ArchipelagoFerries busy() {
        ArchipelagoFerries x = twoShips();
        x.ship(2, 3, 40, 300, 4, 20);
        x.fill(2, 400);
        x.crew(2, 0, 3);
        x.reside(0, 0);
        x.reside(1, 1);
        x.reside(2, 5);
        x.bus(1, 4, 1);
        x.bus(3, 12, 11);
        x.hinder(0, 0, 30, 33);
        x.hinder(1, 0, 40, 50);
        x.hinder(2, 1, 20, 25);
        x.plan(0, 1, 0, 30);
        x.plan(0, 3, 4, 30);
        x.plan(0, 1, 9, 40);
        x.plan(1, 0, 6, 10);
        x.plan(2, 4, 7, 50);
        bookSome(x);
        x.cancel(3);
        x.cancel(4);
        x.pass(5);
        x.replace(4, 2);
        x.plan(1, 3, 12, 20);
        return x;
    }

    private static void bookSome(ArchipelagoFerries x) {
        for (int person = 0; person < 3; person++) {
            x.book(person, 0, 1, 20, 15, false);
            x.book(person, 1, 0, 0, 0, false);
            x.book(person, 1, 3, 30, 40, person == 1);
            x.book(person, 2, 2, 10, 10, false);
            x.book(person, 3, 0, 0, 0, false);
        }
    }

    /**
     * As many ships, crews, sailings and bookings as there can be, and full tanks, in hour 0. On the day 1 the ship 1
     * has the crew 5 alone.
     */
    static ArchipelagoFerries full() {
        ArchipelagoFerries x = new ArchipelagoFerries();
        for (int ship = 0; ship < 4; ship++) {
            x.ship(ship, 2, 20, 100, 1, 10);
            x.fill(ship, 1000);
        }
        for (int crew = 0; crew < 6; crew++) {
            x.crew(crew % 4, 0, crew < 4 ? 0 : 500);
        }
        for (int sailing = 0; sailing < 24; sailing++) {
            int ship = sailing % 4;
            x.plan(ship, sailing / 4 % 2 == 0 ? 5 : ship, sailing / 4 * 5, 20);
        }
        for (int booking = 0; booking < 40; booking++) {
            x.book(booking % 10, booking % 24, 1, 9, 10, false);
        }
        x.cancel(20);
        return x;
    }

    /** Two ships in hour 8976; sailing 0 was cancelled long ago, 1 is planned for hour 9000. */
    static ArchipelagoFerries nearlyLate() {
        ArchipelagoFerries x = twoShips();
        x.plan(0, 1, 9000, 10);
        x.cancel(0);
        x.plan(0, 2, 9000, 10);
        for (int hour = 0; hour < 8976; hour += 48) {
            x.pass(48);
        }
        return x;
    }

    /** The same in hour 9000, the last that can be now. */
    static ArchipelagoFerries late() {
        ArchipelagoFerries x = nearlyLate();
        x.pass(24);
        return x;
    }
}
