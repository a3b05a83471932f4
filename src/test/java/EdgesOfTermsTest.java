/**
 * "Terms", sentence by sentence: islands, tides, ships; sailings; buses; and how many calls there may be. Above each
 * method stands the sentence that it holds the program to. (Bookings: EdgesOfBookingsTest; Exceptions:
 * RefusedCallsTest.)
 */
public final class EdgesOfTermsTest {
    public static void main(String[] args) {
        manyCalls();
        islands();
        daysOfHours();
        depthTurnsRound();
        shipsAtMostFour();
        oneToFourLanes();
        tankEmptyAtFirst();
        tankAtMostThousand();
        sidesOfLanes();
        sailingsAtMost24();
        hoursRoundedUp();
        plannedFromWhereItWillBe();
        plannedNotAheadOfTheEnd();
        plannedNotAheadOfNow();
        plannedThenEither();
        firstOfTheReasons();
        notAtTheIsland();
        outWithBothHours();
        depthHere();
        depthThere();
        stormWithBothHours();
        strikeOfOddNumbers();
        crewOnBoardOnThatDay();
        crewAtMostTwelve();
        fuelJustEnough();
        lowestCrewThatCan();
        atTheOtherIslandWhenItEnds();
        burnsWithoutWhatIsBehindThePoint();
        oneHourSpans();
        replacedOnce();
        replacedBySameShip();
        noBusesAtFirst();
        firstBusAtTheHourOrLater();
        Check.end();
    }

    private static void states(String what, ArchipelagoFerries x, int... due) {
        for (int i = 0; i < due.length; i++) {
            int asked = i;
            Check.due(what + ", sailing " + i, due[i], () -> x.state(asked));
        }
    }

    private static void passTo(ArchipelagoFerries x, int hour) {
        while (x.now() < hour) {
            x.pass(Math.min(48, hour - x.now()));
        }
    }

    /** "An object is used for at most 512 calls after it has been made": the last one is answered like the first. */
    private static void manyCalls() {
        ArchipelagoFerries x = new ArchipelagoFerries();
        for (int call = 1; call <= 510; call++) {
            int hour = call;
            if (call % 3 == 0) {
                Check.refused("a refused call counts too", Check.OUT_OF_BOUNDS, () -> x.depth(6, hour));
            } else {
                Check.due("call " + call, 3 + Math.abs(hour % 12 - 6), () -> x.depth(0, hour));
            }
        }
        Check.due("call 511", 0, () -> x.ship(5, 4, 100, 1000, 9, 40));
        Check.due("call 512", 5, () -> x.place(0));
    }

    // ---- Islands, tides, ships

    /** "There are the islands 0 to 5." */
    private static void islands() {
        ArchipelagoFerries x = new ArchipelagoFerries();
        Check.due("island 0", 9, () -> x.depth(0, 0));
        Check.due("island 5", 7, () -> x.depth(5, 0));
        Check.refused("island -1", Check.OUT_OF_BOUNDS, () -> x.depth(-1, 0));
        Check.refused("island 6", Check.OUT_OF_BOUNDS, () -> x.depth(6, 0));
        Check.due("a ship at the island 5", 0, () -> x.ship(5, 1, 10, 1, 1, 1));
        Check.due("a sailing to the island 0", 0, () -> x.plan(0, 0, 0, 1));
        Check.due("a sailing to the island 5", 1, () -> x.plan(0, 5, 1, 1));
    }

    /** "Hours are counted from 0; the day of an hour h is h / 24." */
    private static void daysOfHours() {
        ArchipelagoFerries x = Worlds.oneShip(1, 10);
        Check.due("the first hour", 0, x::now);
        int[] hours = {0, 23, 24, 47, 48};
        for (int i = 0; i < hours.length; i++) {
            x.plan(0, i % 2 == 0 ? 1 : 0, hours[i], 10);
        }
        passTo(x, 49);
        Check.due("0 and 23 are of day 0", 2, () -> x.hours(0, 0));
        Check.due("24 and 47 are of day 1", 2, () -> x.hours(0, 1));
        Check.due("48 is of day 2", 1, () -> x.hours(0, 2));
    }

    /** "The depth at the island i in the hour h is 3 and the distance of (h + 2 * i) % 12 from 6, together." */
    private static void depthTurnsRound() {
        ArchipelagoFerries x = new ArchipelagoFerries();
        // island, hour, depth: the deepest, the shallowest, and both sides of the turn from 11 to 0
        int[][] rows = {{0, 0, 9}, {0, 5, 4}, {0, 6, 3}, {0, 7, 4}, {0, 11, 8}, {0, 12, 9}, {0, 13, 8}, {1, 9, 8},
            {1, 10, 9}, {1, 4, 3}, {5, 1, 8}, {5, 2, 9}, {5, 3, 8}, {5, 8, 3}, {3, 0, 3}, {0, 9999, 6}, {0, 10000, 5},
            {4, 10000, 9}, {5, 9999, 8}, {5, 10000, 7}};
        for (int[] row : rows) {
            Check.due("depth(" + row[0] + ", " + row[1] + ")", row[2], () -> x.depth(row[0], row[1]));
        }
    }

    /** "Ships are numbered from 0, at most 4." */
    private static void shipsAtMostFour() {
        ArchipelagoFerries x = new ArchipelagoFerries();
        Check.refused("none at first", Check.OUT_OF_BOUNDS, () -> x.place(0));
        for (int i = 0; i < 4; i++) {
            Check.due("ship " + i, i, () -> x.ship(0, 1, 10, 1, 1, 1));
        }
        Check.refused("a fifth", Check.STATE, () -> x.ship(0, 1, 10, 1, 1, 1));
        Check.due("ship 3 is there", 0, () -> x.place(3));
        Check.refused("ship 4 is not", Check.OUT_OF_BOUNDS, () -> x.place(4));
    }

    /** "A ship has 1 to 4 lanes of one length, a most weight, a draught, a speed, a home, where it is at first, ..." */
    private static void oneToFourLanes() {
        for (int lanes = 1; lanes <= 4; lanes++) {
            ArchipelagoFerries x = Worlds.ready(lanes, 10, 1000);
            for (int i = 0; i <= lanes; i++) {
                x.book(0, 0, 1, 10, 1, false);
            }
            x.pass(1);
            int due = lanes;
            Check.due("each lane holds one of its length", due, () -> x.taken(0));
            Check.due("and none holds one more", -1, () -> x.lane(due));
        }
        ArchipelagoFerries y = new ArchipelagoFerries();
        y.ship(5, 1, 10, 1, 1, 1);
        Check.due("at its home", 5, () -> y.place(0));
        Check.due("at its home in hour 0", 5, () -> y.placeByLine(0, 0));
    }

    /** "... and a tank, empty at first, ..." */
    private static void tankEmptyAtFirst() {
        ArchipelagoFerries x = new ArchipelagoFerries();
        x.ship(0, 1, 10, 1, 1, 1);
        Check.due("empty at first", 0, () -> x.fuel(0));
        x.fill(0, 7);
        x.ship(0, 1, 10, 1, 1, 1);
        Check.due("that of the next one too", 0, () -> x.fuel(1));
    }

    /** "... for at most 1000 units of fuel." */
    private static void tankAtMostThousand() {
        ArchipelagoFerries x = new ArchipelagoFerries();
        x.ship(0, 1, 10, 1, 1, 40);
        x.crew(0, 0, 0);
        Check.due("to the brim", 1000, () -> x.fill(0, 1000));
        Check.refused("one more", Check.STATE, () -> x.fill(0, 1));
        x.plan(0, 1, 0, 40);
        x.pass(1);
        Check.refused("one more than was burnt", Check.STATE, () -> x.fill(0, 17));
        Check.due("what was burnt", 1000, () -> x.fill(0, 16));
    }

    /** "Of n lanes the lane k lies on the left if 2 * k is below n - 1, on the right if it is above that, ..." */
    private static void sidesOfLanes() {
        int[][] lanes = {{0}, {0, 1}, {1, 0, 2}, {0, 2, 1, 3}};
        int[] lists = {0, 1 - 2, 2 - 4, 1 - 2 + 4 - 8};
        for (int n = 1; n <= 4; n++) {
            ArchipelagoFerries x = Worlds.ready(n, 10, 1000);
            for (int i = 0; i < n; i++) {
                x.book(0, 0, 1, 10, 1 << i, false);
            }
            x.pass(1);
            for (int i = 0; i < n; i++) {
                int asked = i;
                Check.due("booking " + i + " in " + n + " lanes", lanes[n - 1][i], () -> x.lane(asked));
            }
            Check.due("sides of " + n + " lanes", lists[n - 1], () -> x.list(0));
        }
    }

    // ---- Sailings

    /** "Sailings are numbered from 0, at most 24." */
    private static void sailingsAtMost24() {
        ArchipelagoFerries x = Worlds.twoShips();
        x.plan(1, 5, 0, 1);
        x.cancel(0);
        for (int i = 1; i < 24; i++) {
            int number = i;
            Check.due("sailing " + i, number, () -> x.plan(0, number % 2, number, 1));
        }
        Check.refused("a 25th", Check.STATE, () -> x.plan(0, 0, 100, 1));
        Check.refused("a 25th in place of one", Check.STATE, () -> x.replace(0, 1));
        Check.refused("sailing 24 is not there", Check.OUT_OF_BOUNDS, () -> x.state(24));
        passTo(x, 24);
        // 12 hours on the day 0: 11 more sail and one does not, for want of a crew.
        Check.due("the 24th is looked at", 51, () -> x.state(23));
    }

    /** "it takes as many hours as the distance divided by the speed, rounded up" */
    private static void hoursRoundedUp() {
        // speed, distance, hours
        int[][] rows = {{1, 1, 1}, {1, 2, 2}, {1, 400, 400}, {3, 2, 1}, {3, 3, 1}, {3, 4, 2}, {7, 399, 57},
            {7, 400, 58}, {40, 1, 1}, {40, 39, 1}, {40, 40, 1}, {40, 41, 2}, {40, 80, 2}, {40, 81, 3}, {40, 399, 10},
            {40, 400, 10}, {39, 400, 11}};
        for (int[] row : rows) {
            ArchipelagoFerries x = new ArchipelagoFerries();
            x.ship(0, 1, 10, 1, 1, row[0]);
            x.plan(0, 1, 5, row[1]);
            Check.due(row[1] + " at " + row[0], 5 + row[2], () -> x.ends(0));
        }
    }

    /** "It is planned from where the ship is behind its last sailing that is not cancelled, one that sailed too ..." */
    private static void plannedFromWhereItWillBe() {
        ArchipelagoFerries x = Worlds.oneShip(1, 10);
        Check.refused("from home (where it is, if there is none)", Check.ARGUMENT, () -> x.plan(0, 0, 0, 1));
        x.plan(0, 1, 0, 20);
        x.plan(0, 2, 2, 20);
        Check.refused("from behind the last one planned", Check.ARGUMENT, () -> x.plan(0, 2, 4, 1));
        x.cancel(1);
        Check.refused("a cancelled one does not count", Check.ARGUMENT, () -> x.plan(0, 1, 4, 1));
        x.pass(1);
        Check.refused("one that sailed does, at sea too", Check.ARGUMENT, () -> x.plan(0, 1, 4, 1));
        Check.due("one that sailed does", 2, () -> x.plan(0, 0, 4, 1));
        x.cancel(2);
        ArchipelagoFerries y = Worlds.oneShip(1, 10);
        y.plan(0, 1, 0, 10);
        y.plan(0, 2, 5, 10);
        y.cancel(0);
        Check.refused("behind the last, though it cannot be there", Check.ARGUMENT, () -> y.plan(0, 2, 9, 1));
        Check.due("from there to where the ship lies", 2, () -> y.plan(0, 0, 9, 1));
        y.pass(10);
        states("neither can sail", y, 71, 11, 11);
        Check.refused("all are cancelled: from home", Check.ARGUMENT, () -> y.plan(0, 0, 10, 1));
        Check.due("all are cancelled: from home", 3, () -> y.plan(0, 1, 10, 1));
        y.pass(1);
        Check.due("and it sails", 2, () -> y.state(3));
    }

    /** "... not ahead of the end of that ..." */
    private static void plannedNotAheadOfTheEnd() {
        ArchipelagoFerries x = Worlds.oneShip(1, 10);
        x.plan(0, 1, 3, 21);
        Check.refused("an hour ahead of the end", Check.STATE, () -> x.plan(0, 0, 5, 1));
        Check.due("at the end", 1, () -> x.plan(0, 0, 6, 1));
        Check.refused("an hour ahead of the next end", Check.STATE, () -> x.plan(0, 1, 6, 1));
        x.cancel(1);
        x.cancel(0);
        Check.due("the end of a cancelled one does not count", 2, () -> x.plan(0, 1, 0, 31));
        x.pass(2);
        Check.refused("the end of one at sea does", Check.STATE, () -> x.plan(0, 0, 3, 1));
        Check.due("at the end of one at sea", 3, () -> x.plan(0, 0, 4, 1));
    }

    /** "... and not ahead of now." */
    private static void plannedNotAheadOfNow() {
        ArchipelagoFerries x = Worlds.oneShip(1, 10);
        Check.due("now, in hour 0", 0, () -> x.plan(0, 1, 0, 1));
        x.cancel(0);
        x.pass(7);
        Check.refused("an hour ahead of now", Check.ARGUMENT, () -> x.plan(0, 1, 6, 1));
        Check.refused("hour 0, long gone", Check.ARGUMENT, () -> x.plan(0, 1, 0, 1));
        Check.due("now", 1, () -> x.plan(0, 1, 7, 1));
        Check.due("not looked at yet", 0, () -> x.state(1));
        x.pass(1);
        Check.due("looked at", 2, () -> x.state(1));
    }

    /** "It is PLANNED, then either CANCELLED or SAILED." */
    private static void plannedThenEither() {
        ArchipelagoFerries x = Worlds.oneShip(1, 10);
        x.plan(0, 1, 2, 10);
        x.plan(0, 0, 4, 10);
        states("at first", x, 0, 0);
        x.cancel(1);
        x.pass(6);
        states("a cancelled one does not sail, a sailed one stays", x, 2, 71);
        Check.refused("a sailed one is not cancelled", Check.STATE, () -> x.cancel(0));
        Check.refused("a cancelled one is not cancelled anew", Check.STATE, () -> x.cancel(1));
        states("and so they stay", x, 2, 71);
        Check.due("nothing was burnt by the cancelled one", 999, () -> x.fuel(0));
        Check.due("nor sailed", 1, () -> x.hours(0, 0));
    }

    /** "When its hour comes it is cancelled, for the first of these reasons": all 64 ways in which they can meet. */
    private static void firstOfTheReasons() {
        for (int met = 0; met < 64; met++) {
            ArchipelagoFerries x = new ArchipelagoFerries();
            x.ship(0, 1, 10, 1, (met & 2) != 0 ? 4 : 3, 10);
            x.plan(0, 1, 0, 10);
            x.cancel(0);
            x.plan(0, 1, 6, 10);
            if ((met & 1) != 0) {
                x.hinder(2, 0, 6, 6);
            }
            if ((met & 4) != 0) {
                x.hinder(0, 0, 6, 6);
            }
            if ((met & 8) != 0) {
                x.hinder(1, 0, 6, 6);
            }
            if ((met & 16) == 0) {
                x.crew(0, 0, 0);
            }
            if ((met & 32) == 0) {
                x.fill(0, 1);
            }
            x.pass(7);
            int first = 1 + Integer.numberOfTrailingZeros(met);
            int due = met == 0 ? 2 : 10 * first + 1;
            Check.due("reasons " + Integer.toBinaryString(met), due, () -> x.state(1));
        }
    }

    /** "1 the ship is not at the island, ..." */
    private static void notAtTheIsland() {
        ArchipelagoFerries x = Worlds.oneShip(1, 10);
        x.plan(0, 1, 0, 30);
        x.plan(0, 2, 3, 10);
        x.plan(0, 3, 6, 10);
        x.plan(0, 2, 9, 10);
        x.cancel(2);
        x.pass(10);
        states("in the hour in which it came it is there, elsewhere it is not", x, 2, 2, 71, 11);
    }

    /** "... or is out": "both with them", "of the latter for a ship" */
    private static void outWithBothHours() {
        int[] due = {2, 11, 11, 11, 2};
        for (int i = 0; i < due.length; i++) {
            ArchipelagoFerries x = Worlds.twoShips();
            x.hinder(2, 0, 6, 8);
            x.plan(0, 1, 5 + i, 10);
            x.plan(1, 0, 5 + i, 10);
            x.pass(12);
            states("out from 6 to 8, in hour " + (5 + i), x, due[i], 2);
        }
    }

    /** "2 the depth at the island is less than the draught ..." */
    private static void depthHere() {
        // At the island 0 it is 4, 3, 4 in the hours 5 to 7; at the island 1, an hour later each, 5, 6, 7.
        int[][] rows = {{4, 5, 2}, {5, 5, 21}, {3, 6, 2}, {4, 6, 21}, {4, 7, 2}, {5, 7, 21}};
        for (int[] row : rows) {
            ArchipelagoFerries x = Worlds.oneShip(row[0], 10);
            x.plan(0, 1, row[1], 10);
            x.pass(13);
            states("draught " + row[0] + " from 0 in hour " + row[1], x, row[2]);
        }
    }

    /** "... or at the other one when it would come there" */
    private static void depthThere() {
        // From the island 0 in hour 3, where it is 6; at the island 1 it is 4, 3, 4, 5, 6 in the hours 3 to 7.
        int[][] rows = {{3, 1, 2}, {4, 1, 21}, {4, 2, 2}, {5, 2, 21}, {5, 3, 2}, {6, 3, 21}, {6, 4, 2}};
        for (int[] row : rows) {
            ArchipelagoFerries x = Worlds.oneShip(row[0], 10);
            x.plan(0, 1, 3, 10 * row[1]);
            x.pass(4);
            states("draught " + row[0] + " to 1 in " + row[1] + " hours", x, row[2]);
        }
        ArchipelagoFerries deepest = new ArchipelagoFerries();
        deepest.ship(1, 1, 10, 1, 9, 10);
        deepest.fill(0, 10);
        deepest.crew(0, 0, 0);
        deepest.plan(0, 0, 10, 20);
        deepest.pass(11);
        states("the most draught, from high tide to high tide", deepest, 2);
    }

    /** "3 there is a storm": "told for hours from one to another one, both with them" */
    private static void stormWithBothHours() {
        int[] due = {2, 31, 31, 2};
        for (int i = 0; i < due.length; i++) {
            ArchipelagoFerries x = Worlds.oneShip(1, 10);
            x.hinder(0, 0, 6, 7);
            x.plan(0, 1, 5 + i, 10);
            x.pass(10);
            states("storm from 6 to 7, in hour " + (5 + i), x, due[i]);
        }
        ArchipelagoFerries y = Worlds.oneShip(1, 10);
        y.hinder(0, 0, 1, 3);
        y.plan(0, 1, 0, 40);
        y.pass(4);
        states("one that began ahead of a storm", y, 2);
        Check.due("and that comes there", 1, () -> y.place(0));
    }

    /** "4 there is a strike, and its number is odd" */
    private static void strikeOfOddNumbers() {
        for (int number = 0; number < 24; number++) {
            ArchipelagoFerries x = Worlds.oneShip(1, 10);
            for (int i = 0; i < number; i++) {
                x.cancel(x.plan(0, 1, 0, 10));
            }
            x.hinder(1, 0, 0, 0);
            x.plan(0, 1, 0, 10);
            x.pass(1);
            int n = number;
            Check.due("strike, number " + n, n % 2 == 1 ? 41 : 2, () -> x.state(n));
        }
        int[] due = {2, 41, 41, 2};
        for (int i = 0; i < due.length; i++) {
            ArchipelagoFerries y = Worlds.oneShip(1, 10);
            y.cancel(y.plan(0, 1, 0, 10));
            y.hinder(1, 0, 6, 7);
            y.plan(0, 1, 5 + i, 10);
            y.pass(10);
            states("strike from 6 to 7, in hour " + (5 + i), y, 71, due[i]);
        }
    }

    /** "5 no crew is on board on that day ..." */
    private static void crewOnBoardOnThatDay() {
        // The crew is on board on the days 1 and 2, which are the hours 24 to 71.
        int[][] rows = {{23, 51}, {24, 2}, {71, 2}, {72, 51}};
        for (int[] row : rows) {
            ArchipelagoFerries x = Worlds.twoShips();
            x.ship(0, 1, 10, 1, 1, 10);
            x.fill(2, 10);
            x.crew(2, 1, 2);
            x.plan(2, 1, row[0], 10);
            passTo(x, row[0] + 1);
            states("in hour " + row[0], x, row[1]);
        }
        ArchipelagoFerries y = new ArchipelagoFerries();
        y.ship(0, 1, 10, 1, 1, 10);
        y.fill(0, 10);
        y.crew(0, 0, 0);
        y.plan(0, 1, 23, 30);
        y.pass(24);
        states("only the day of the beginning counts", y, 2);
    }

    /** "... whose hours on that day and the hours of the sailing, together, are at most 12" */
    private static void crewAtMostTwelve() {
        int[][] alone = {{11, 2}, {12, 2}, {13, 51}, {400, 51}};
        for (int[] row : alone) {
            ArchipelagoFerries x = Worlds.oneShip(1, 1);
            x.plan(0, 1, 0, row[0]);
            x.pass(1);
            states(row[0] + " hours", x, row[1]);
        }
        int[][] together = {{1, 11, 2}, {1, 12, 51}, {6, 6, 2}, {6, 7, 51}, {11, 1, 2}, {11, 2, 51}, {12, 1, 51}};
        for (int[] row : together) {
            ArchipelagoFerries x = Worlds.oneShip(1, 1);
            x.plan(0, 1, 0, row[0]);
            x.plan(0, 0, row[0], row[1]);
            x.pass(24);
            states(row[0] + " and " + row[1] + " hours", x, 2, row[2]);
            int due = row[2] == 2 ? row[0] + row[1] : row[0];
            Check.due("hours of " + row[0] + " and " + row[1], due, () -> x.hours(0, 0));
        }
        ArchipelagoFerries y = Worlds.oneShip(1, 1);
        y.plan(0, 1, 0, 12);
        y.plan(0, 0, 24, 12);
        y.pass(25);
        states("12 hours on each of two days", y, 2, 2);
    }

    /** "6 the tank has less fuel than it burns" */
    private static void fuelJustEnough() {
        for (int fuel = 31; fuel <= 33; fuel++) {
            ArchipelagoFerries x = new ArchipelagoFerries();
            x.ship(0, 1, 10, 1, 1, 40);
            x.crew(0, 0, 0);
            x.fill(0, fuel);
            x.plan(0, 1, 0, 80);
            x.pass(1);
            states("32 are burnt, with " + fuel, x, fuel < 32 ? 61 : 2);
            int due = fuel < 32 ? fuel : fuel - 32;
            Check.due("what is left of " + fuel, due, () -> x.fuel(0));
        }
        ArchipelagoFerries y = new ArchipelagoFerries();
        y.ship(0, 1, 10, 1, 1, 9);
        y.crew(0, 0, 0);
        y.plan(0, 1, 0, 9);
        y.pass(1);
        states("an empty tank is enough for what burns nothing", y, 2);
    }

    /** "Otherwise it sails: the crew, the lowest one that can, has these hours on that day, ..." */
    private static void lowestCrewThatCan() {
        ArchipelagoFerries x = new ArchipelagoFerries();
        x.ship(0, 1, 10, 1, 1, 1);
        x.ship(0, 1, 10, 1, 1, 1);
        x.fill(0, 1000);
        x.crew(1, 0, 500);
        x.crew(0, 1, 500);
        x.crew(0, 0, 0);
        x.crew(0, 0, 500);
        x.plan(0, 1, 0, 7);
        x.plan(0, 0, 7, 6);
        x.plan(0, 1, 13, 5);
        x.plan(0, 0, 24, 1);
        x.pass(25);
        states("each has a crew", x, 2, 2, 2, 2);
        // Crew 0 is on another ship, crew 1 is on board from day 1; then 7 by crew 2, 6 by crew 3, 5 by crew 2.
        int[][] due = {{0, 0}, {0, 1}, {12, 0}, {6, 0}};
        for (int crew = 0; crew < 4; crew++) {
            int asked = crew;
            Check.due("crew " + crew + " on day 0", due[crew][0], () -> x.hours(asked, 0));
            Check.due("crew " + crew + " on day 1", due[crew][1], () -> x.hours(asked, 1));
        }
    }

    /** "... and the ship is at the other island when the sailing ends." */
    private static void atTheOtherIslandWhenItEnds() {
        ArchipelagoFerries x = Worlds.oneShip(1, 10);
        x.plan(0, 5, 1, 30);
        x.pass(2);
        Check.due("behind the first hour", -1, () -> x.place(0));
        x.pass(1);
        Check.due("an hour ahead of the end", -1, () -> x.place(0));
        x.pass(1);
        Check.due("at the end", 5, () -> x.place(0));
        ArchipelagoFerries y = Worlds.oneShip(1, 10);
        y.plan(0, 5, 0, 1);
        y.pass(1);
        Check.due("a sailing of one hour is never asked at sea", 5, () -> y.place(0));
    }

    /** "It burns the hours times the speed times the speed, ... divided by 100 ..., leaving out what is behind ..." */
    private static void burnsWithoutWhatIsBehindThePoint() {
        // speed, distance, burnt: 0.01, 0.12, 0.81, 0.98, 1, 1.47, 1.69, 1.96, 2.25, 16, 138.72, 155.52, 160
        int[][] rows = {{1, 1, 0}, {1, 12, 0}, {9, 9, 0}, {7, 14, 0}, {10, 1, 1}, {7, 21, 1}, {13, 1, 1}, {14, 14, 1},
            {15, 2, 2}, {40, 1, 16}, {34, 400, 138}, {36, 400, 155}, {40, 400, 160}};
        for (int[] row : rows) {
            ArchipelagoFerries x = Worlds.oneShip(1, row[0]);
            x.plan(0, 1, 0, row[1]);
            x.pass(1);
            states(row[1] + " at " + row[0], x, 2);
            Check.due("burnt for " + row[1] + " at " + row[0], 1000 - row[2], () -> x.fuel(0));
        }
    }

    /** "Storms, strikes and ships that are out are told for hours from one to another one, both with them": one hour */
    private static void oneHourSpans() {
        for (int what = 0; what <= 2; what++) {
            int hindered = what == 0 ? 31 : what == 1 ? 41 : 11;
            int[] due = {2, hindered, 2};
            for (int i = 0; i < due.length; i++) {
                ArchipelagoFerries x = Worlds.oneShip(1, 10);
                x.cancel(x.plan(0, 1, 0, 10));
                x.hinder(what, 0, 1, 1);
                x.plan(0, 1, i, 10);
                x.pass(3);
                states(what + " in hour 1 alone, in hour " + i, x, 71, due[i]);
            }
            ArchipelagoFerries y = Worlds.oneShip(1, 10);
            y.cancel(y.plan(0, 1, 0, 10));
            y.plan(0, 1, 0, 10);
            y.pass(1);
            states("none is told at first, " + what, y, 71, 2);
        }
    }

    /** "A sailing that was cancelled can be replaced, once, ..." */
    private static void replacedOnce() {
        ArchipelagoFerries x = Worlds.twoShips();
        x.ship(0, 1, 10, 1, 1, 10);
        x.plan(0, 1, 3, 10);
        x.cancel(0);
        Check.due("once", 1, () -> x.replace(0, 2));
        Check.refused("not twice", Check.STATE, () -> x.replace(0, 0));
        x.cancel(1);
        Check.refused("not twice, though the other one was cancelled", Check.STATE, () -> x.replace(0, 0));
        Check.due("that one can be, once", 2, () -> x.replace(1, 0));
        Check.refused("and not twice", Check.STATE, () -> x.replace(1, 2));
    }

    /** "... by one of a ship that is free, also of the same one." */
    private static void replacedBySameShip() {
        ArchipelagoFerries x = Worlds.twoShips();
        x.hinder(0, 0, 2, 2);
        x.plan(0, 1, 2, 100);
        x.plan(1, 0, 2, 100);
        x.pass(3);
        states("cancelled by a storm", x, 31, 31);
        Check.refused("not by one that is elsewhere", Check.STATE, () -> x.replace(0, 1));
        Check.due("by the same one", 2, () -> x.replace(0, 0));
        Check.refused("not by one that is planned", Check.STATE, () -> x.replace(1, 0));
        x.pass(1);
        Check.due("it sails", 2, () -> x.state(2));
        Check.due("from now on", 13, () -> x.ends(2));
    }

    // ---- Buses

    /** "... p being told for the island, 1 to 12 (none at first) ..." */
    private static void noBusesAtFirst() {
        ArchipelagoFerries x = Worlds.oneShip(1, 10);
        x.plan(0, 5, 0, 10);
        x.pass(2);
        Check.due("none at first", -1, () -> x.busAfter(0));
        for (int island = 0; island < 5; island++) {
            x.bus(island, 1, 0);
        }
        Check.due("none at other islands", -1, () -> x.busAfter(0));
        x.bus(5, 1, 0);
        Check.due("each hour", 0, () -> x.busAfter(0));
    }

    /** "Behind a sailing that sailed one waits for the first bus at the hour of its end, or later." */
    private static void firstBusAtTheHourOrLater() {
        for (int end = 1; end <= 24; end++) {
            ArchipelagoFerries x = Worlds.oneShip(1, 10);
            x.plan(0, 1, end - 1, 10);
            x.pass(end);
            for (int each = 1; each <= 12; each++) {
                for (int first = 0; first < each; first++) {
                    int wait = 0;
                    while ((end + wait) % each != first) {
                        wait++;
                    }
                    x.bus(1, each, first);
                    Check.due("end " + end + ", each " + each + ", first " + first, wait, () -> x.busAfter(0));
                }
            }
        }
    }
}
