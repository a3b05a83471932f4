/** Promises 1 to 9. */
public final class ShipsAndCrewsTest {
    public static void main(String[] args) {
        newObject();
        ship();
        shipIsUsedAsTold();
        fill();
        crew();
        crewsOnTheirDays();
        hours();
        depth();
        hinder();
        hinderIsToldAnew();
        bus();
        reside();
        Check.end();
    }

    private static void newObject() {
        ArchipelagoFerries x = new ArchipelagoFerries();
        Check.due("1 now", 0, x::now);
        for (int line = 0; line <= 2; line++) {
            int asked = line;
            Check.due("1 account " + line, 0, () -> x.account(asked));
        }
        Check.due("1 accountAnew FARES", 0, () -> x.accountAnew(0));
        Check.due("1 accountAnew STATE", 0, () -> x.accountAnew(1));
        Check.refused("1 no ship", Check.OUT_OF_BOUNDS, () -> x.place(0));
        Check.refused("1 no sailing", Check.OUT_OF_BOUNDS, () -> x.state(0));
        Check.refused("1 no booking", Check.OUT_OF_BOUNDS, () -> x.paid(0));
        Check.refused("1 no crew", Check.OUT_OF_BOUNDS, () -> x.hours(0, 0));
        for (int person = 0; person < 10; person++) {
            int asked = person;
            Check.due("1 nobody resides", -1, () -> x.reside(asked, -1));
        }
        ArchipelagoFerries other = new ArchipelagoFerries();
        other.ship(0, 1, 10, 1, 1, 1);
        Check.refused("1 objects are apart", Check.OUT_OF_BOUNDS, () -> x.place(0));
    }

    private static void ship() {
        ArchipelagoFerries x = new ArchipelagoFerries();
        int[][] wrongOnes = {
            {0, 0, 10, 1, 1, 1}, {0, 5, 10, 1, 1, 1}, {0, 1, 9, 1, 1, 1}, {0, 1, 101, 1, 1, 1},
            {0, 1, 10, 0, 1, 1}, {0, 1, 10, 1001, 1, 1}, {0, 1, 10, 1, 0, 1}, {0, 1, 10, 1, 10, 1},
            {0, 1, 10, 1, 1, 0}, {0, 1, 10, 1, 1, 41}, {0, Integer.MIN_VALUE, 10, 1, 1, 1},
            {0, 1, Integer.MAX_VALUE, 1, 1, 1}};
        for (int[] a : wrongOnes) {
            Check.refused("2 ship out of range", Check.ARGUMENT, () -> x.ship(a[0], a[1], a[2], a[3], a[4], a[5]));
        }
        Check.refused("2 no such home", Check.OUT_OF_BOUNDS, () -> x.ship(-1, 0, 0, 0, 0, 0));
        Check.refused("2 no such home", Check.OUT_OF_BOUNDS, () -> x.ship(6, 1, 10, 1, 1, 1));
        Check.due("2 least", 0, () -> x.ship(0, 1, 10, 1, 1, 1));
        Check.due("2 most", 1, () -> x.ship(5, 4, 100, 1000, 9, 40));
        Check.due("2 third", 2, () -> x.ship(3, 2, 50, 500, 5, 20));
        Check.due("2 fourth", 3, () -> x.ship(3, 3, 50, 500, 5, 20));
        Check.refused("2 fifth", Check.STATE, () -> x.ship(3, 3, 50, 500, 5, 20));
        Check.refused("2 fifth, out of range", Check.ARGUMENT, () -> x.ship(3, 3, 50, 500, 5, 0));
        Check.refused("2 fifth, no such home", Check.OUT_OF_BOUNDS, () -> x.ship(6, 3, 50, 500, 5, 20));
        Check.due("2 home", 0, () -> x.place(0));
        Check.due("2 home", 5, () -> x.place(1));
        Check.due("2 empty tank", 0, () -> x.fuel(3));
    }

    private static void shipIsUsedAsTold() {
        ArchipelagoFerries x = new ArchipelagoFerries();
        x.ship(2, 1, 10, 5, 1, 7);
        x.plan(0, 3, 4, 14);
        x.plan(0, 2, 6, 15);
        Check.due("2 speed, even", 6, () -> x.ends(0));
        Check.due("2 speed, rounded up", 9, () -> x.ends(1));
    }

    private static void fill() {
        ArchipelagoFerries x = new ArchipelagoFerries();
        Check.refused("3 no ship", Check.OUT_OF_BOUNDS, () -> x.fill(0, 0));
        x.ship(0, 1, 10, 1, 1, 1);
        x.ship(0, 1, 10, 1, 1, 1);
        Check.refused("3 none", Check.ARGUMENT, () -> x.fill(0, 0));
        Check.refused("3 below none", Check.ARGUMENT, () -> x.fill(0, -1));
        Check.refused("3 above all", Check.ARGUMENT, () -> x.fill(0, 1001));
        Check.refused("3 ship -1", Check.OUT_OF_BOUNDS, () -> x.fill(-1, 1));
        Check.due("3 one", 1, () -> x.fill(0, 1));
        Check.refused("3 too much", Check.STATE, () -> x.fill(0, 1000));
        Check.due("3 nothing changed", 1, () -> x.fuel(0));
        Check.due("3 nothing spent", -3, () -> x.account(2));
        Check.due("3 full", 1000, () -> x.fill(0, 999));
        Check.due("3 another", 1000, () -> x.fill(1, 1000));
        Check.refused("3 full already", Check.STATE, () -> x.fill(1, 1));
        Check.refused("3 full already, out of range", Check.ARGUMENT, () -> x.fill(1, 1001));
        Check.due("3 spent", -6000, () -> x.account(2));
        Check.due("3 no fares", 0, () -> x.account(0));
    }

    private static void crew() {
        ArchipelagoFerries x = new ArchipelagoFerries();
        Check.refused("4 no ship", Check.OUT_OF_BOUNDS, () -> x.crew(0, -1, 0));
        x.ship(0, 1, 10, 1, 1, 1);
        Check.refused("4 ship -1", Check.OUT_OF_BOUNDS, () -> x.crew(-1, 0, 0));
        Check.refused("4 from -1", Check.ARGUMENT, () -> x.crew(0, -1, 0));
        Check.refused("4 from 501", Check.ARGUMENT, () -> x.crew(0, 501, 501));
        Check.refused("4 to 501", Check.ARGUMENT, () -> x.crew(0, 500, 501));
        Check.refused("4 to ahead of from", Check.ARGUMENT, () -> x.crew(0, 7, 6));
        Check.due("4 first", 0, () -> x.crew(0, 0, 0));
        Check.due("4 last days", 1, () -> x.crew(0, 500, 500));
        for (int i = 2; i < 6; i++) {
            Check.due("4 more", i, () -> x.crew(0, 0, 500));
        }
        Check.refused("4 seventh", Check.STATE, () -> x.crew(0, 0, 500));
        Check.refused("4 seventh, out of range", Check.ARGUMENT, () -> x.crew(0, 1, 0));
        Check.refused("4 seventh, no ship", Check.OUT_OF_BOUNDS, () -> x.crew(1, 1, 0));
    }

    /** A ship without fuel shows by reason 6 that it had a crew, and by reason 5 that it had none. */
    private static void crewsOnTheirDays() {
        ArchipelagoFerries x = new ArchipelagoFerries();
        x.ship(0, 1, 10, 1, 1, 10);
        x.ship(0, 1, 10, 1, 1, 10);
        x.crew(0, 1, 2);
        int[] hours = {23, 24, 71, 72};
        int[] due = {51, 61, 61, 51};
        for (int i = 0; i < hours.length; i++) {
            while (x.now() < hours[i]) {
                x.pass(1);
            }
            int number = x.plan(0, 1, hours[i], 10);
            x.pass(1);
            Check.due("4 on board in hour " + hours[i], due[i], () -> x.state(number));
        }
        ArchipelagoFerries y = new ArchipelagoFerries();
        y.ship(0, 1, 10, 1, 1, 10);
        y.ship(0, 1, 10, 1, 1, 10);
        y.crew(0, 0, 500);
        y.plan(1, 1, 0, 10);
        y.pass(1);
        Check.due("4 not on another ship", 51, () -> y.state(0));
    }

    private static void hours() {
        ArchipelagoFerries x = new ArchipelagoFerries();
        Check.refused("5 no crew", Check.OUT_OF_BOUNDS, () -> x.hours(0, -1));
        x.ship(0, 1, 10, 1, 1, 1);
        x.fill(0, 1000);
        x.crew(0, 0, 500);
        x.crew(0, 0, 500);
        Check.refused("5 crew -1", Check.OUT_OF_BOUNDS, () -> x.hours(-1, 0));
        Check.refused("5 crew 2", Check.OUT_OF_BOUNDS, () -> x.hours(2, 0));
        Check.refused("5 day -1", Check.ARGUMENT, () -> x.hours(0, -1));
        Check.refused("5 day 501", Check.ARGUMENT, () -> x.hours(0, 501));
        Check.due("5 day 500", 0, () -> x.hours(0, 500));
        x.plan(0, 1, 1, 5);
        x.plan(0, 0, 6, 8);
        x.plan(0, 1, 14, 7);
        x.plan(0, 0, 23, 5);
        x.pass(1);
        Check.due("5 not yet", 0, () -> x.hours(0, 0));
        x.pass(48);
        for (int i = 0; i < 4; i++) {
            int asked = i;
            Check.due("5 sailed", i == 3 ? 51 : 2, () -> x.state(asked));
        }
        // 5, then 8 (13 would be above 12: the second crew), then 7 (12, the first again), then 5 (none).
        Check.due("5 first crew", 12, () -> x.hours(0, 0));
        Check.due("5 second crew", 8, () -> x.hours(1, 0));
        Check.due("5 next day", 0, () -> x.hours(0, 1));
        ArchipelagoFerries y = new ArchipelagoFerries();
        y.ship(0, 1, 10, 1, 1, 1);
        y.fill(0, 1000);
        y.crew(0, 0, 500);
        y.plan(0, 1, 23, 12);
        y.plan(0, 0, 35, 12);
        y.pass(48);
        Check.due("5 over midnight", 12, () -> y.hours(0, 0));
        Check.due("5 over midnight, day 1", 12, () -> y.hours(0, 1));
        Check.due("5 over midnight, day 2", 0, () -> y.hours(0, 2));
        Check.due("5 13 hours are too many", 0, () -> y.plan(0, 1, 60, 13) - 2);
        y.pass(24);
        Check.due("5 13 hours are too many", 51, () -> y.state(2));
    }

    private static void depth() {
        ArchipelagoFerries x = new ArchipelagoFerries();
        int[] atIslandZero = {9, 8, 7, 6, 5, 4, 3, 4, 5, 6, 7, 8};
        for (int hour = 0; hour < 40; hour++) {
            for (int island = 0; island < 6; island++) {
                int i = island;
                int h = hour;
                Check.due("6 depth(" + i + ", " + h + ")", atIslandZero[(h + 2 * i) % 12], () -> x.depth(i, h));
            }
        }
        Check.due("6 last hour", 5, () -> x.depth(0, 10000));
        Check.due("6 last hour", 7, () -> x.depth(5, 10000));
        Check.refused("6 hour 10001", Check.ARGUMENT, () -> x.depth(0, 10001));
        Check.refused("6 hour -1", Check.ARGUMENT, () -> x.depth(0, -1));
        Check.refused("6 island 6", Check.OUT_OF_BOUNDS, () -> x.depth(6, -1));
        Check.refused("6 island -1", Check.OUT_OF_BOUNDS, () -> x.depth(-1, 0));
    }

    private static void hinder() {
        ArchipelagoFerries x = new ArchipelagoFerries();
        x.ship(0, 1, 10, 1, 1, 1);
        Check.refused("7 what -1", Check.ARGUMENT, () -> told(x, -1, 0, 0, 1));
        Check.refused("7 what 3", Check.ARGUMENT, () -> told(x, 3, 0, 0, 1));
        Check.refused("7 what 3, no ship", Check.ARGUMENT, () -> told(x, 3, 9, 0, 1));
        Check.refused("7 no ship", Check.OUT_OF_BOUNDS, () -> told(x, 2, 1, 0, 1));
        Check.refused("7 no ship, wrong hours", Check.OUT_OF_BOUNDS, () -> told(x, 2, -1, 5, 1));
        for (int what = 0; what < 3; what++) {
            int w = what;
            Check.refused("7 from -1", Check.ARGUMENT, () -> told(x, w, 0, -1, 1));
            Check.refused("7 from 10001", Check.ARGUMENT, () -> told(x, w, 0, 10001, 10001));
            Check.refused("7 to 10001", Check.ARGUMENT, () -> told(x, w, 0, 0, 10001));
            Check.refused("7 to ahead of from", Check.ARGUMENT, () -> told(x, w, 0, 5, 4));
            Check.due("7 one hour", 0, () -> told(x, w, 0, 10000, 10000));
            Check.due("7 all hours", 0, () -> told(x, w, 0, 0, 10000));
        }
        Check.due("7 the ship counts for nothing", 0, () -> told(x, 0, 99, 0, 1));
        Check.due("7 the ship counts for nothing", 0, () -> told(x, 1, -7, 0, 1));
    }

    private static long told(ArchipelagoFerries x, int what, int ship, int from, int to) {
        x.hinder(what, ship, from, to);
        return 0;
    }

    private static void hinderIsToldAnew() {
        for (int what = 0; what < 3; what++) {
            int state = what == 0 ? 31 : what == 1 ? 41 : 11;
            ArchipelagoFerries x = new ArchipelagoFerries();
            x.ship(0, 1, 10, 1, 1, 10);
            x.ship(0, 1, 10, 1, 1, 10);
            x.crew(1, 0, 500);
            x.fill(1, 1000);
            x.hinder(what, 1, 4, 9);
            x.hinder(what, 1, 5, 7);
            if (what == 2) {
                x.hinder(2, 0, 0, 100);
            }
            int[] due = {2, state, state, state, 2};
            for (int hour = 4; hour <= 8; hour++) {
                while (x.now() < hour) {
                    x.pass(1);
                }
                x.plan(0, 1, hour, 1);
                int number = x.plan(1, 1 - x.place(1), hour, 1);
                x.pass(1);
                int at = hour - 4;
                Check.due("7 what " + what + " in hour " + hour, due[at], () -> x.state(number));
            }
        }
    }

    private static void bus() {
        ArchipelagoFerries x = new ArchipelagoFerries();
        Check.refused("8 island -1", Check.OUT_OF_BOUNDS, () -> told(x, -1, 0, 0));
        Check.refused("8 island 6", Check.OUT_OF_BOUNDS, () -> told(x, 6, 1, 0));
        Check.refused("8 each 0", Check.ARGUMENT, () -> told(x, 0, 0, 0));
        Check.refused("8 each 13", Check.ARGUMENT, () -> told(x, 0, 13, 0));
        Check.refused("8 first -1", Check.ARGUMENT, () -> told(x, 0, 1, -1));
        Check.refused("8 first as each", Check.ARGUMENT, () -> told(x, 0, 1, 1));
        Check.due("8 least", 0, () -> told(x, 0, 1, 0));
        Check.due("8 most", 0, () -> told(x, 5, 12, 11));
    }

    private static long told(ArchipelagoFerries x, int island, int each, int first) {
        x.bus(island, each, first);
        return 0;
    }

    private static void reside() {
        ArchipelagoFerries x = new ArchipelagoFerries();
        Check.refused("9 person -1", Check.OUT_OF_BOUNDS, () -> x.reside(-1, 0));
        Check.refused("9 person 10", Check.OUT_OF_BOUNDS, () -> x.reside(10, 0));
        Check.refused("9 island 6", Check.OUT_OF_BOUNDS, () -> x.reside(0, 6));
        Check.refused("9 island -2", Check.OUT_OF_BOUNDS, () -> x.reside(0, -2));
        Check.due("9 at first", -1, () -> x.reside(0, 5));
        Check.due("9 then", 5, () -> x.reside(0, 0));
        Check.refused("9 changes nothing", Check.OUT_OF_BOUNDS, () -> x.reside(0, 6));
        Check.due("9 another", -1, () -> x.reside(9, 3));
        Check.due("9 to none", 0, () -> x.reside(0, -1));
        Check.due("9 from none", -1, () -> x.reside(0, 2));
        Check.due("9 kept", 3, () -> x.reside(9, 3));
    }
}
