/** Promises 10 to 20. */
public final class SailingsTest {
    public static void main(String[] args) {
        plan();
        planBehindCancelled();
        planMost();
        cancel();
        replace();
        replaceRefused();
        replaceBySameShip();
        pass();
        passByNumbers();
        reasonsInOrder();
        depthAtBothEnds();
        state();
        ends();
        busAfter();
        place();
        placeByLine();
        fuel();
        Check.end();
    }

    private static long told(ArchipelagoFerries x, int what, int ship, int from, int to) {
        x.hinder(what, ship, from, to);
        return 0;
    }

    private static void plan() {
        ArchipelagoFerries x = Worlds.twoShips();
        Check.refused("10 ship 2", Check.OUT_OF_BOUNDS, () -> x.plan(2, 1, -1, 0));
        Check.refused("10 ship -1", Check.OUT_OF_BOUNDS, () -> x.plan(-1, 1, 0, 1));
        Check.refused("10 island 6", Check.OUT_OF_BOUNDS, () -> x.plan(0, 6, -1, 0));
        Check.refused("10 island -1", Check.OUT_OF_BOUNDS, () -> x.plan(0, -1, 0, 1));
        Check.refused("10 hour -1", Check.ARGUMENT, () -> x.plan(0, 1, -1, 1));
        Check.refused("10 hour 10001", Check.ARGUMENT, () -> x.plan(0, 1, 10001, 1));
        Check.refused("10 distance 0", Check.ARGUMENT, () -> x.plan(0, 1, 0, 0));
        Check.refused("10 distance 401", Check.ARGUMENT, () -> x.plan(0, 1, 0, 401));
        Check.refused("10 to where it is", Check.ARGUMENT, () -> x.plan(0, 0, 0, 1));
        Check.due("10 first", 0, () -> x.plan(0, 1, 5, 20));
        Check.refused("10 to where it will be", Check.ARGUMENT, () -> x.plan(0, 1, 7, 1));
        Check.refused("10 argument ahead of state", Check.ARGUMENT, () -> x.plan(0, 1, 6, 1));
        Check.refused("10 ahead of the end", Check.STATE, () -> x.plan(0, 2, 6, 1));
        Check.refused("10 far ahead of the end", Check.STATE, () -> x.plan(0, 2, 0, 1));
        Check.due("10 at the end", 1, () -> x.plan(0, 2, 7, 1));
        Check.due("10 the other ship", 2, () -> x.plan(1, 0, 0, 400));
        x.pass(10);
        Check.refused("10 ahead of now", Check.ARGUMENT, () -> x.plan(0, 0, 9, 1));
        Check.due("10 now, last hour", 10, () -> x.ends(x.plan(0, 0, 10, 1)) - 1);
        Check.due("10 hour 10000", 4, () -> x.plan(0, 3, 10000, 1));
        Check.refused("10 behind hour 10000", Check.STATE, () -> x.plan(0, 4, 10000, 1));
    }

    private static void planBehindCancelled() {
        ArchipelagoFerries x = Worlds.twoShips();
        x.plan(0, 1, 2, 10);
        x.plan(0, 2, 10, 10);
        x.cancel(1);
        Check.refused("10 behind the first again: where it goes from", Check.ARGUMENT, () -> x.plan(0, 1, 3, 10));
        Check.due("10 behind the first again", 2, () -> x.plan(0, 3, 3, 10));
        x.cancel(2);
        x.cancel(0);
        Check.refused("10 from home again: where it goes from", Check.ARGUMENT, () -> x.plan(0, 0, 0, 10));
        Check.due("10 from home again", 3, () -> x.plan(0, 5, 0, 10));
        x.pass(5);
        Check.due("10 behind one that sailed", 4, () -> x.plan(0, 0, 5, 10));
        x.pass(1);
        Check.due("10 it sailed from there", 2, () -> x.state(4));
    }

    private static void planMost() {
        ArchipelagoFerries x = Worlds.twoShips();
        for (int i = 0; i < 24; i++) {
            int number = x.plan(0, i % 2 == 0 ? 1 : 0, 2 * i, 10);
            Check.same("10 number", Integer.toString(number), Integer.toString(i));
        }
        Check.refused("10 the 25th", Check.STATE, () -> x.plan(0, 1, 100, 10));
        Check.refused("10 the 25th of another ship", Check.STATE, () -> x.plan(1, 0, 100, 10));
        Check.refused("10 the 25th, wrong", Check.ARGUMENT, () -> x.plan(1, 0, 100, 0));
        x.cancel(0);
        Check.refused("10 cancelled ones count", Check.STATE, () -> x.plan(1, 0, 100, 10));
        Check.refused("12 the 25th", Check.STATE, () -> x.replace(0, 0));
        for (int i = 1; i < 24; i++) {
            x.cancel(i);
        }
        Check.refused("12 the 25th by a free ship", Check.STATE, () -> x.replace(0, 0));
    }

    private static void cancel() {
        ArchipelagoFerries x = Worlds.twoShips();
        Check.refused("11 no sailing", Check.OUT_OF_BOUNDS, () -> x.cancel(0));
        x.plan(0, 1, 2, 10);
        x.plan(0, 0, 5, 10);
        x.plan(0, 1, 9, 10);
        for (int person = 0; person < 4; person++) {
            x.book(person, 0, 0, 0, 0, false);
        }
        x.book(4, 1, 0, 0, 0, false);
        Check.refused("11 sailing 3", Check.OUT_OF_BOUNDS, () -> x.cancel(3));
        Check.refused("11 sailing -1", Check.OUT_OF_BOUNDS, () -> x.cancel(-1));
        Check.due("11 all go over", 4, () -> x.cancel(0));
        Check.due("11 state", 71, () -> x.state(0));
        Check.refused("11 cancelled", Check.STATE, () -> x.cancel(0));
        Check.due("11 went over", 2, () -> x.sailingOf(3));
        Check.due("11 another waits on", 1, () -> x.sailingOf(4));
        Check.due("11 paid back", 1, () -> x.cancel(1));
        Check.due("11 paid back", -1, () -> x.sailingOf(4));
        Check.due("11 all paid back", 4, () -> x.cancel(2));
        Check.due("11 all paid back", 0, () -> x.account(0));
        x.plan(0, 1, 0, 10);
        x.pass(1);
        Check.refused("11 sailed", Check.STATE, () -> x.cancel(3));
        Check.due("11 none of it", 0, () -> x.cancel(x.plan(0, 0, 9, 10)));
    }

    private static void replace() {
        ArchipelagoFerries x = Worlds.twoShips();
        x.plan(0, 1, 3, 45);
        x.cancel(0);
        x.ship(0, 1, 10, 1, 1, 40);
        x.fill(2, 1000);
        x.crew(2, 0, 0);
        x.pass(2);
        Check.due("12 number", 1, () -> x.replace(0, 2));
        Check.due("12 now, by its own speed", 4, () -> x.ends(1));
        Check.due("12 planned", 0, () -> x.state(1));
        Check.due("12 the old one stays", 71, () -> x.state(0));
        Check.refused("12 replaced once", Check.STATE, () -> x.replace(0, 0));
        x.book(0, 1, 0, 0, 0, false);
        Check.due("12 over the same distance", 90, () -> x.paid(0));
        x.pass(1);
        Check.due("12 sailed", 2, () -> x.state(1));
        x.pass(2);
        Check.due("12 to the same island", 1, () -> x.place(2));
        Check.refused("12 sailed ones are not replaced", Check.STATE, () -> x.replace(1, 1));
    }

    private static void replaceRefused() {
        ArchipelagoFerries x = Worlds.twoShips();
        x.plan(0, 1, 0, 10);
        Check.refused("12 sailing 1", Check.OUT_OF_BOUNDS, () -> x.replace(1, 0));
        Check.refused("12 sailing -1", Check.OUT_OF_BOUNDS, () -> x.replace(-1, 0));
        Check.refused("12 ship 2", Check.OUT_OF_BOUNDS, () -> x.replace(0, 2));
        Check.refused("12 ship -1", Check.OUT_OF_BOUNDS, () -> x.replace(0, -1));
        Check.refused("12 not cancelled", Check.STATE, () -> x.replace(0, 1));
        x.cancel(0);
        Check.refused("12 not at the island", Check.STATE, () -> x.replace(0, 1));
        Check.due("12 a planned one", 1, () -> x.plan(0, 2, 50, 10));
        Check.refused("12 has a planned one", Check.STATE, () -> x.replace(0, 0));
        x.cancel(1);
        told(x, 2, 0, 0, 1);
        Check.refused("12 out now", Check.STATE, () -> x.replace(0, 0));
        x.pass(1);
        Check.refused("12 out now, last hour", Check.STATE, () -> x.replace(0, 0));
        told(x, 2, 0, 2, 2);
        Check.due("12 out later", 2, () -> x.replace(0, 0));
        told(x, 2, 0, 100, 100);
        x.plan(0, 0, 2, 20);
        x.pass(2);
        Check.due("12 sails back", 2, () -> x.state(3));
        Check.refused("12 not ended", Check.STATE, () -> x.replace(1, 0));
        x.pass(1);
        Check.due("12 ended", 4, () -> x.replace(1, 0));
    }

    private static void replaceBySameShip() {
        ArchipelagoFerries x = Worlds.twoShips();
        x.hinder(0, 0, 0, 0);
        x.plan(0, 1, 0, 300);
        x.pass(1);
        Check.due("12 storm", 31, () -> x.state(0));
        Check.due("12 same ship, ahead of the end that would have been", 1, () -> x.replace(0, 0));
        x.hinder(0, 0, 1, 1);
        x.pass(1);
        Check.due("12 storm again", 31, () -> x.state(1));
        Check.refused("12 the first was replaced", Check.STATE, () -> x.replace(0, 0));
        Check.due("12 the second can be", 2, () -> x.replace(1, 0));
        Check.due("12 the distance is handed on", 32, () -> x.ends(2));
    }

    private static void pass() {
        ArchipelagoFerries x = Worlds.twoShips();
        Check.refused("13 none", Check.ARGUMENT, () -> x.pass(0));
        Check.refused("13 below none", Check.ARGUMENT, () -> x.pass(Integer.MIN_VALUE));
        Check.refused("13 49", Check.ARGUMENT, () -> x.pass(49));
        x.plan(0, 1, 0, 10);
        x.plan(0, 0, 1, 10);
        Check.due("13 one hour", 1, () -> x.pass(1));
        Check.due("14 now", 1, x::now);
        Check.due("13 now is looked at first", 2, () -> x.state(0));
        Check.due("13 the hour behind is not", 0, () -> x.state(1));
        Check.due("13 48 hours", 49, () -> x.pass(48));
        Check.due("13 the next", 2, () -> x.state(1));
        for (int i = 0; i < 186; i++) {
            x.pass(48);
        }
        Check.due("14 now", 8977, x::now);
        Check.refused("13 above 9000", Check.STATE, () -> x.pass(24));
        Check.refused("13 above 9000, wrong", Check.ARGUMENT, () -> x.pass(49));
        Check.due("13 nothing changed", 8977, x::now);
        Check.due("13 to 9000", 9000, () -> x.pass(23));
        Check.refused("13 above 9000", Check.STATE, () -> x.pass(1));
        x.plan(0, 1, 9000, 10);
        Check.refused("13 above 9000", Check.STATE, () -> x.pass(1));
        Check.due("13 not looked at", 0, () -> x.state(2));
    }

    /** What the first one of an hour does not take waits for the second one of the same hour. */
    private static void passByNumbers() {
        ArchipelagoFerries x = new ArchipelagoFerries();
        x.ship(0, 1, 10, 50, 1, 10);
        x.ship(0, 1, 10, 50, 1, 10);
        x.fill(0, 1000);
        x.fill(1, 1000);
        x.crew(0, 0, 500);
        x.crew(1, 0, 500);
        x.plan(1, 1, 3, 10);
        x.plan(0, 1, 3, 10);
        x.book(0, 0, 1, 10, 5, false);
        x.book(0, 0, 1, 10, 5, false);
        x.book(0, 1, 1, 10, 5, false);
        x.pass(4);
        Check.due("13 first", 0, () -> x.sailingOf(0));
        Check.due("13 goes over in the same hour", 1, () -> x.sailingOf(1));
        Check.due("13 and is taken by its number", 0, () -> x.lane(1));
        Check.due("13 in place of the later number", -1, () -> x.sailingOf(2));
    }

    /** Every reason holds at first; they are mended one by one. */
    private static void reasonsInOrder() {
        for (int mended = 0; mended <= 6; mended++) {
            ArchipelagoFerries x = new ArchipelagoFerries();
            x.ship(0, 1, 10, 1, mended >= 2 ? 3 : 9, 10);
            x.plan(0, 1, 0, 10);
            x.cancel(0);
            if (mended < 1) {
                x.hinder(2, 0, 6, 6);
            }
            x.plan(0, 1, 6, 10);
            if (mended < 3) {
                x.hinder(0, 0, 6, 6);
            }
            if (mended < 4) {
                x.hinder(1, 0, 6, 6);
            }
            if (mended >= 5) {
                x.crew(0, 0, 0);
            }
            if (mended >= 6) {
                x.fill(0, 1);
            }
            x.pass(6);
            Check.due("15 not ahead of its hour", 0, () -> x.state(1));
            x.pass(1);
            int due = mended == 6 ? 2 : 11 + 10 * mended;
            Check.due("15 mended " + mended, due, () -> x.state(1));
        }
    }

    private static void depthAtBothEnds() {
        // draught, hour, distance, state
        int[][] rows = {
            {4, 5, 10, 2},   // as deep as the draught at the island 0
            {5, 5, 10, 21},  // one less at the island 0
            {6, 1, 10, 21},  // deep enough at the island 1 in hour 1, but not when it comes there in hour 2
            {5, 4, 20, 2}};  // not deep enough at the island 1 in hour 4, but when it comes there in hour 6
        for (int[] row : rows) {
            ArchipelagoFerries x = new ArchipelagoFerries();
            x.ship(0, 1, 10, 1, row[0], 10);
            x.fill(0, 1000);
            x.crew(0, 0, 0);
            x.plan(0, 1, row[1], row[2]);
            x.pass(6);
            Check.due("15 draught " + row[0] + " in hour " + row[1], row[3], () -> x.state(0));
        }
    }

    private static void state() {
        ArchipelagoFerries x = Worlds.twoShips();
        Check.refused("15 no sailing", Check.OUT_OF_BOUNDS, () -> x.state(0));
        Check.refused("15 sailing -1", Check.OUT_OF_BOUNDS, () -> x.state(-1));
        x.plan(0, 1, 0, 10);
        x.plan(0, 2, 4, 10);
        x.plan(0, 3, 6, 10);
        x.plan(1, 0, 8, 10);
        Check.due("15 planned", 0, () -> x.state(0));
        x.cancel(1);
        x.hinder(1, 0, 0, 10);
        x.pass(9);
        Check.due("15 sailed, even in a strike", 2, () -> x.state(0));
        Check.due("15 cancelled", 71, () -> x.state(1));
        Check.due("15 not there", 11, () -> x.state(2));
        Check.due("15 odd in a strike", 41, () -> x.state(3));
        Check.refused("15 sailing 4", Check.OUT_OF_BOUNDS, () -> x.state(4));
    }

    private static void ends() {
        ArchipelagoFerries x = Worlds.twoShips();
        Check.refused("16 no sailing", Check.OUT_OF_BOUNDS, () -> x.ends(0));
        x.plan(0, 1, 3, 31);
        Check.due("16 planned", 7, () -> x.ends(0));
        x.cancel(0);
        Check.due("16 cancelled", 7, () -> x.ends(0));
        x.plan(0, 1, 3, 1);
        x.pass(5);
        Check.due("16 sailed", 4, () -> x.ends(1));
        x.plan(0, 0, 10000, 400);
        Check.due("16 far away", 10040, () -> x.ends(2));
        Check.refused("16 sailing 3", Check.OUT_OF_BOUNDS, () -> x.ends(3));
        Check.refused("16 sailing -1", Check.OUT_OF_BOUNDS, () -> x.ends(-1));
    }

    private static void busAfter() {
        ArchipelagoFerries x = Worlds.twoShips();
        Check.refused("17 no sailing", Check.OUT_OF_BOUNDS, () -> x.busAfter(0));
        Check.refused("17 sailing -1", Check.OUT_OF_BOUNDS, () -> x.busAfter(-1));
        x.plan(0, 1, 3, 40);
        x.plan(0, 0, 9, 10);
        x.bus(0, 1, 0);
        Check.due("17 not yet", -1, () -> x.busAfter(0));
        x.pass(5);
        Check.due("17 no buses", -1, () -> x.busAfter(0));
        x.bus(1, 4, 3);
        Check.due("17 at once", 0, () -> x.busAfter(0));
        x.bus(1, 4, 2);
        Check.due("17 just missed", 3, () -> x.busAfter(0));
        x.bus(1, 12, 1);
        Check.due("17 later", 6, () -> x.busAfter(0));
        x.bus(1, 12, 11);
        Check.due("17 later the same day", 4, () -> x.busAfter(0));
        x.bus(1, 1, 0);
        Check.due("17 every hour", 0, () -> x.busAfter(0));
        x.cancel(1);
        Check.due("17 cancelled", -1, () -> x.busAfter(1));
    }

    private static void place() {
        ArchipelagoFerries x = Worlds.twoShips();
        Check.refused("18 ship 2", Check.OUT_OF_BOUNDS, () -> x.place(2));
        Check.refused("18 ship -1", Check.OUT_OF_BOUNDS, () -> x.place(-1));
        x.plan(0, 3, 2, 20);
        x.plan(0, 0, 4, 10);
        int[] due = {0, 0, 0, -1, 3, 0, 0};
        for (int hour = 0; hour < due.length; hour++) {
            Check.due("18 in hour " + hour, due[hour], () -> x.place(0));
            Check.due("18 the other stays", 1, () -> x.place(1));
            x.pass(1);
        }
    }

    private static void placeByLine() {
        ArchipelagoFerries x = Worlds.twoShips();
        Check.refused("19 ship 2", Check.OUT_OF_BOUNDS, () -> x.placeByLine(2, -1));
        Check.refused("19 ship -1", Check.OUT_OF_BOUNDS, () -> x.placeByLine(-1, 0));
        Check.refused("19 hour -1", Check.ARGUMENT, () -> x.placeByLine(0, -1));
        Check.refused("19 hour 1", Check.ARGUMENT, () -> x.placeByLine(0, 1));
        x.plan(0, 3, 2, 20);
        x.plan(0, 4, 4, 10);
        x.plan(0, 5, 7, 10);
        x.plan(0, 0, 9, 10);
        x.cancel(2);
        x.pass(13);
        Check.due("19 the fourth was planned from 5", 11, () -> x.state(3));
        int[] due = {0, 0, -1, -1, -1, 4, 4, 4, 4, 4, 4, 4, 4, 4};
        for (int hour = 0; hour < due.length; hour++) {
            int asked = hour;
            Check.due("19 in hour " + hour, due[hour], () -> x.placeByLine(0, asked));
        }
        Check.refused("19 behind now", Check.ARGUMENT, () -> x.placeByLine(0, 14));
        Check.due("19 the other", 1, () -> x.placeByLine(1, 13));
    }

    private static void fuel() {
        // 3 hours at 7 burn 1.47, so 1; 10 hours at 40 burn 160; one hour at 1 burns 0.01, so 0.
        int[] speeds = {7, 40, 1, 10};
        int[] distances = {21, 400, 1, 1};
        int[] burnt = {1, 160, 0, 1};
        for (int i = 0; i < speeds.length; i++) {
            int due = burnt[i];
            ArchipelagoFerries x = new ArchipelagoFerries();
            Check.refused("20 no ship", Check.OUT_OF_BOUNDS, () -> x.fuel(0));
            x.ship(0, 1, 10, 1, 1, speeds[i]);
            x.crew(0, 0, 500);
            Check.due("20 empty", 0, () -> x.fuel(0));
            if (due > 1) {
                x.fill(0, due - 1);
            }
            if (due > 0) {
                x.plan(0, 1, 0, distances[i]);
                x.pass(1);
                Check.due("20 one less than it burns", 61, () -> x.state(0));
                Check.due("20 nothing is burnt", due - 1, () -> x.fuel(0));
                x.fill(0, 1);
            }
            int number = x.plan(0, 1, 1, distances[i]);
            x.pass(2);
            Check.due("20 just enough", 2, () -> x.state(number));
            Check.due("20 all burnt", 0, () -> x.fuel(0));
            Check.refused("20 ship -1", Check.OUT_OF_BOUNDS, () -> x.fuel(-1));
        }
    }
}
