/**
 * The promises, one method each: the first and the last value of every range that is told, the nearest ones outside of
 * it, and the edges that "Returns" names. (Refused calls, and that they change nothing: RefusedCallsTest.)
 */
public final class EdgesOfPromisesTest {
    interface Asked {
        long with(int value);
    }

    public static void main(String[] args) {
        newObject();
        ship();
        fill();
        crew();
        hours();
        depth();
        hinder();
        hinderInPlaceOfThoseBefore();
        bus();
        reside();
        plan();
        planIsToldByNumber();
        cancel();
        replace();
        replaceNow();
        pass();
        passLooksAtNowFirst();
        now();
        state();
        ends();
        busAfter();
        place();
        placeByLine();
        fuel();
        book();
        sailingOf();
        lane();
        paid();
        taken();
        list();
        account();
        accountAnew();
        Check.end();
    }

    /** Each call is made on an object of its own. */
    private static void range(String what, int least, int most, String exception, Asked call) {
        for (int value : new int[] {least, least + (most - least) / 2, most}) {
            String answer = Check.answer(() -> call.with(value));
            Check.same(what + " " + value + " is taken", Boolean.toString(!answer.startsWith("throws.")), "true");
        }
        for (int value : new int[] {least - 1, most + 1, Integer.MIN_VALUE, Integer.MAX_VALUE}) {
            Check.refused(what + " " + value, exception, () -> call.with(value));
        }
    }

    private static void index(String what, int most, Asked call) {
        range(what, 0, most, Check.OUT_OF_BOUNDS, call);
    }

    private static void argument(String what, int least, int most, Asked call) {
        range(what, least, most, Check.ARGUMENT, call);
    }

    private static ArchipelagoFerries made() {
        return new ArchipelagoFerries();
    }

    private static void passTo(ArchipelagoFerries x, int hour) {
        while (x.now() < hour) {
            x.pass(Math.min(48, hour - x.now()));
        }
    }

    private static ArchipelagoFerries at(int hour) {
        ArchipelagoFerries x = Worlds.twoShips();
        passTo(x, hour);
        return x;
    }

    /** "Begins at the hour 0, without ships, sailings, bookings and crews." */
    private static void newObject() {
        Check.due("1 the hour 0", 0, () -> made().now());
        Check.refused("1 no ships", Check.OUT_OF_BOUNDS, () -> made().fuel(0));
        Check.refused("1 no sailings", Check.OUT_OF_BOUNDS, () -> made().ends(0));
        Check.refused("1 no bookings", Check.OUT_OF_BOUNDS, () -> made().lane(0));
        Check.refused("1 no crews", Check.OUT_OF_BOUNDS, () -> made().hours(0, 0));
        for (int line = 0; line <= 2; line++) {
            int asked = line;
            Check.due("1 empty account " + line, 0, () -> made().account(asked));
        }
        Check.due("1 hours go by without anything", 48, () -> made().pass(48));
    }

    private static void ship() {
        index("2 home: an island", 5, v -> made().ship(v, 1, 10, 1, 1, 1));
        argument("2 lanes: 1 to 4", 1, 4, v -> made().ship(0, v, 10, 1, 1, 1));
        argument("2 length: 10 to 100", 10, 100, v -> made().ship(0, 1, v, 1, 1, 1));
        argument("2 weight: 1 to 1000", 1, 1000, v -> made().ship(0, 1, 10, v, 1, 1));
        argument("2 draught: 1 to 9", 1, 9, v -> made().ship(0, 1, 10, 1, v, 1));
        argument("2 speed: 1 to 40", 1, 40, v -> made().ship(0, 1, 10, 1, 1, v));
        ArchipelagoFerries x = made();
        Check.due("2 the number of the first", 0, () -> x.ship(5, 1, 10, 1, 1, 1));
        Check.refused("2 a refused one", Check.ARGUMENT, () -> x.ship(5, 1, 10, 1, 1, 0));
        Check.due("2 takes no number", 1, () -> x.ship(0, 4, 100, 1000, 9, 40));
        x.ship(0, 1, 10, 1, 1, 1);
        Check.due("2 the fourth", 3, () -> x.ship(0, 1, 10, 1, 1, 1));
        Check.refused("2 if there are 4", Check.STATE, () -> x.ship(0, 1, 10, 1, 1, 1));
    }

    private static void fill() {
        index("3 ship", 1, v -> emptyTanks().fill(v, 1));
        argument("3 amount: 1 to 1000", 1, 1000, v -> emptyTanks().fill(0, v));
        ArchipelagoFerries x = emptyTanks();
        Check.due("3 returns what it has then", 999, () -> x.fill(0, 999));
        Check.due("3 FUEL loses 3 for each", -2997, () -> x.account(2));
        Check.refused("3 more than 1000", Check.STATE, () -> x.fill(0, 2));
        Check.due("3 a refused one costs nothing", -2997, () -> x.account(2));
        Check.due("3 just 1000", 1000, () -> x.fill(0, 1));
        Check.due("3 the other's own", 1000, () -> x.fill(1, 1000));
        Check.due("3 of both", -6000, () -> x.account(2));
        Check.due("3 not of FARES", 0, () -> x.account(0));
        Check.due("3 not of STATE", 0, () -> x.account(1));
    }

    private static ArchipelagoFerries emptyTanks() {
        ArchipelagoFerries x = made();
        x.ship(0, 1, 10, 1, 1, 1);
        x.ship(0, 1, 10, 1, 1, 1);
        return x;
    }

    private static void crew() {
        index("4 ship", 1, v -> at(0).crew(v, 0, 0));
        argument("4 from: 0 to 500", 0, 500, v -> at(0).crew(0, v, 500));
        argument("4 to: 0 to 500", 0, 500, v -> at(0).crew(0, 0, v));
        argument("4 to: from to 500", 250, 500, v -> at(0).crew(0, 250, v));
        argument("4 to: 500 to 500", 500, 500, v -> at(0).crew(0, 500, v));
        ArchipelagoFerries x = made();
        x.ship(0, 1, 10, 1, 1, 1);
        for (int i = 0; i < 6; i++) {
            Check.due("4 the number", i, () -> x.crew(0, 1, 1));
        }
        Check.refused("4 if there are 6", Check.STATE, () -> x.crew(0, 1, 1));
        Check.due("4 crew 5 is there", 0, () -> x.hours(5, 0));
        Check.refused("4 crew 6 is not", Check.OUT_OF_BOUNDS, () -> x.hours(6, 0));
    }

    private static void hours() {
        index("5 crew", 1, v -> at(0).hours(v, 0));
        argument("5 day: 0 to 500", 0, 500, v -> at(0).hours(0, v));
        ArchipelagoFerries x = Worlds.oneShip(1, 40);
        x.plan(0, 1, 8999, 400);
        Check.due("5 what is planned does not count", 0, () -> x.hours(0, 374));
        passTo(x, 9000);
        Check.due("5 in the last hour that is looked at", 10, () -> x.hours(0, 374));
        Check.due("5 nothing of it on the next day", 0, () -> x.hours(0, 375));
        ArchipelagoFerries y = at(0);
        y.plan(0, 1, 0, 120);
        y.plan(1, 0, 0, 10);
        y.pass(1);
        Check.due("5 all of it at once when it sails", 12, () -> y.hours(0, 0));
        Check.due("5 another crew's own", 1, () -> y.hours(1, 0));
    }

    private static void depth() {
        index("6 island", 5, v -> made().depth(v, 0));
        argument("6 hour: 0 to 10000", 0, 10000, v -> made().depth(0, v));
        for (int hour : new int[] {0, 6, 11, 12, 10000}) {
            Check.due("6 the same at any time, hour " + hour, made().depth(3, hour), () -> at(9000).depth(3, hour));
        }
    }

    private static int hindered(int what, int ship, int from, int to) {
        ArchipelagoFerries x = at(0);
        x.hinder(what, ship, from, to);
        return 0;
    }

    private static void hinder() {
        argument("7 what: 0, 1 or 2", 0, 2, v -> hindered(v, 0, 0, 0));
        index("7 ship, if what is 2", 1, v -> hindered(2, v, 0, 0));
        for (int what = 0; what <= 2; what++) {
            int w = what;
            argument("7 from: 0 to 10000 of " + w, 0, 10000, v -> hindered(w, 0, v, 10000));
            argument("7 to: 0 to 10000 of " + w, 0, 10000, v -> hindered(w, 0, 0, v));
            argument("7 to: from to 10000 of " + w, 6000, 10000, v -> hindered(w, 0, 6000, v));
            argument("7 to: 10000 to 10000 of " + w, 10000, 10000, v -> hindered(w, 0, 10000, v));
        }
        for (int ship : new int[] {-1, 2, Integer.MIN_VALUE, Integer.MAX_VALUE}) {
            Check.due("7 ship counts for nothing in a storm", 0, () -> hindered(0, ship, 0, 0));
            Check.due("7 ship counts for nothing in a strike", 0, () -> hindered(1, ship, 0, 0));
        }
        ArchipelagoFerries x = at(5);
        x.hinder(0, 0, 0, 4);
        x.plan(0, 1, 5, 10);
        x.pass(1);
        Check.due("7 hours that are gone can be told", 2, () -> x.state(0));
        ArchipelagoFerries y = at(9000);
        y.hinder(0, 0, 0, 10000);
        Check.due("7 all hours", 9000, y::now);
    }

    /** "in place of those told before of the same, or of the same ship" */
    private static void hinderInPlaceOfThoseBefore() {
        for (int first = 0; first <= 2; first++) {
            for (int then = 0; then <= 2; then++) {
                ArchipelagoFerries x = Worlds.oneShip(1, 10);
                x.ship(0, 1, 10, 1, 1, 10);
                x.cancel(x.plan(0, 1, 0, 10));
                x.hinder(first, 0, 2, 2);
                x.hinder(then, 0, 7, 7);
                x.plan(0, 1, 2, 10);
                x.pass(3);
                int hindered = first == 0 ? 31 : first == 1 ? 41 : 11;
                Check.due("7 " + first + ", then " + then, first == then ? 2 : hindered, () -> x.state(1));
            }
        }
        ArchipelagoFerries y = Worlds.twoShips();
        y.hinder(2, 0, 2, 2);
        y.hinder(2, 1, 7, 7);
        y.plan(0, 1, 2, 10);
        y.plan(1, 0, 2, 10);
        y.pass(3);
        Check.due("7 another ship's stay", 11, () -> y.state(0));
        Check.due("7 another ship's are its own", 2, () -> y.state(1));
        ArchipelagoFerries z = Worlds.oneShip(1, 10);
        z.hinder(0, 0, 0, 10000);
        z.hinder(0, 0, 10000, 10000);
        z.plan(0, 1, 0, 10);
        z.pass(1);
        Check.due("7 a storm is told away", 2, () -> z.state(0));
    }

    private static int bussed(int island, int each, int first) {
        made().bus(island, each, first);
        return 0;
    }

    private static void bus() {
        index("8 island", 5, v -> bussed(v, 1, 0));
        argument("8 each: 1 to 12", 1, 12, v -> bussed(0, v, 0));
        for (int each = 1; each <= 12; each++) {
            int p = each;
            argument("8 first: 0 to " + p + " less 1", 0, p - 1, v -> bussed(0, p, v));
        }
        ArchipelagoFerries x = Worlds.oneShip(1, 10);
        x.plan(0, 1, 0, 10);
        x.pass(1);
        x.bus(1, 12, 0);
        x.bus(0, 1, 0);
        Check.due("8 for each island its own", 11, () -> x.busAfter(0));
        x.bus(1, 3, 0);
        Check.due("8 told anew", 2, () -> x.busAfter(0));
    }

    private static void reside() {
        index("9 person", 9, v -> made().reside(v, 0));
        range("9 island: an island, or NONE", -1, 5, Check.OUT_OF_BOUNDS, v -> made().reside(0, v));
        ArchipelagoFerries x = made();
        Check.due("9 on none before", -1, () -> x.reside(9, 0));
        Check.due("9 on the island 0 before", 0, () -> x.reside(9, 5));
        Check.refused("9 no such island", Check.OUT_OF_BOUNDS, () -> x.reside(9, 6));
        Check.due("9 on the island 5 before", 5, () -> x.reside(9, -1));
        Check.due("9 on none before, to none", -1, () -> x.reside(9, -1));
        Check.due("9 another one", -1, () -> x.reside(8, -1));
    }

    private static void plan() {
        index("10 ship", 1, v -> at(0).plan(v, 5, 0, 1));
        index("10 to: an island", 5, v -> at(0).plan(1, v, 0, 1));
        Check.refused("10 to: not that from which it goes", Check.ARGUMENT, () -> at(0).plan(0, 0, 0, 1));
        Check.due("10 to: that from which another one goes", 0, () -> at(0).plan(0, 1, 0, 1));
        for (int now : new int[] {0, 1, 49, 9000}) {
            argument("10 hour: " + now + " to 10000", now, 10000, v -> at(now).plan(0, 1, v, 1));
        }
        argument("10 distance: 1 to 400", 1, 400, v -> at(0).plan(0, 1, 0, v));
        ArchipelagoFerries x = at(0);
        x.plan(0, 1, 9990, 100);
        Check.refused("10 if the last sailing ends later", Check.STATE, () -> x.plan(0, 0, 9999, 1));
        Check.due("10 if it ends in the last hour", 1, () -> x.plan(0, 0, 10000, 400));
        Check.refused("10 if it ends behind the last hour", Check.STATE, () -> x.plan(0, 1, 10000, 1));
        Check.refused("10 there is no hour behind", Check.ARGUMENT, () -> x.plan(0, 1, 10040, 1));
    }

    private static void planIsToldByNumber() {
        ArchipelagoFerries x = at(0);
        for (int i = 0; i < 24; i++) {
            int hour = i;
            Check.due("10 returns its number", i, () -> x.plan(0, 1 - hour % 2, hour, 1));
            Check.refused("10 a refused one takes none", Check.ARGUMENT, () -> x.plan(0, 1 - hour % 2, hour + 1, 1));
        }
        Check.refused("10 or there are 24", Check.STATE, () -> x.plan(0, 1, 50, 1));
        Check.refused("10 of the other ship too", Check.STATE, () -> x.plan(1, 0, 50, 1));
    }

    private static void cancel() {
        index("11 sailing", 0, v -> Worlds.ready(1, 10, 1).cancel(v));
        for (int count : new int[] {0, 1, 39, 40}) {
            ArchipelagoFerries x = Worlds.ready(1, 10, 1);
            for (int i = 0; i < count; i++) {
                x.book(0, 0, 0, 0, 0, false);
            }
            Check.due("11 " + count + " are paid back", count, () -> x.cancel(0));
            Check.due("11 state", 71, () -> x.state(0));
            Check.refused("11 if it is not PLANNED", Check.STATE, () -> x.cancel(0));
        }
        ArchipelagoFerries x = Worlds.ready(1, 10, 1);
        x.pass(1);
        Check.refused("11 if it sailed", Check.STATE, () -> x.cancel(0));
        ArchipelagoFerries y = Worlds.ready(1, 10, 1);
        y.plan(0, 0, 10000, 1);
        y.pass(1);
        Check.due("11 one in the last hour", 0, () -> y.cancel(1));
    }

    private static ArchipelagoFerries cancelled() {
        ArchipelagoFerries x = Worlds.twoShips();
        x.ship(0, 1, 10, 1, 1, 40);
        x.plan(0, 3, 2, 79);
        x.cancel(0);
        return x;
    }

    private static ArchipelagoFerries manySpares() {
        ArchipelagoFerries x = made();
        for (int ship = 0; ship < 4; ship++) {
            x.ship(0, 1, 10, 1, 1, 1);
        }
        x.cancel(x.plan(0, 1, 0, 1));
        return x;
    }

    private static void replace() {
        index("12 sailing", 0, v -> cancelled().replace(v, 2));
        index("12 ship", 3, v -> manySpares().replace(0, v));
        ArchipelagoFerries x = cancelled();
        x.hinder(2, 2, 1, 3);
        Check.due("12 out from the next hour", 1, () -> x.replace(0, 2));
        for (int hour = 1; hour <= 3; hour++) {
            ArchipelagoFerries y = cancelled();
            y.hinder(2, 2, 1, 3);
            y.pass(hour);
            Check.refused("12 out now, in hour " + hour, Check.STATE, () -> y.replace(0, 2));
        }
        ArchipelagoFerries z = cancelled();
        z.hinder(2, 2, 1, 3);
        z.pass(4);
        Check.due("12 out until the hour before", 1, () -> z.replace(0, 2));
        ArchipelagoFerries w = cancelled();
        w.hinder(0, 0, 0, 10000);
        w.hinder(1, 0, 0, 10000);
        Check.due("12 a storm and a strike do not hinder the planning", 1, () -> w.replace(0, 2));
        w.pass(1);
        Check.due("12 but the sailing", 31, () -> w.state(1));
        ArchipelagoFerries v = cancelled();
        v.crew(2, 0, 0);
        v.fill(2, 100);
        v.plan(2, 3, 0, 40);
        v.plan(2, 0, 1, 40);
        Check.refused("12 has PLANNED ones", Check.STATE, () -> v.replace(0, 2));
        v.pass(1);
        Check.refused("12 has one PLANNED", Check.STATE, () -> v.replace(0, 2));
        v.pass(1);
        Check.due("12 all ended, the last one now", 3, () -> v.replace(0, 2));
    }

    /** "from the same island to the same one, over the same distance, now" */
    private static void replaceNow() {
        ArchipelagoFerries x = cancelled();
        x.pass(1);
        Check.due("12 returns its number", 1, () -> x.replace(0, 2));
        Check.due("12 now, 79 at 40", 3, () -> x.ends(1));
        Check.due("12 is looked at by the next pass()", 0, () -> x.state(1));
        x.fill(2, 32);
        x.crew(2, 0, 0);
        x.book(0, 1, 0, 0, 0, false);
        Check.due("12 over the same distance", 158, () -> x.paid(0));
        x.pass(1);
        Check.due("12 sailed", 2, () -> x.state(1));
        Check.due("12 burnt", 0, () -> x.fuel(2));
        x.pass(1);
        Check.due("12 to the same island", 3, () -> x.place(2));
        ArchipelagoFerries late = Worlds.late();
        late.cancel(1);
        Check.due("12 in the last hour", 2, () -> late.replace(0, 0));
        Check.due("12 in the last hour, the end", 9001, () -> late.ends(2));
    }

    private static void pass() {
        argument("13 hours: 1 to 48", 1, 48, v -> made().pass(v));
        Check.due("13 returns now", 48, () -> made().pass(48));
        ArchipelagoFerries x = made();
        passTo(x, 8952);
        Check.due("13 now would be 9000", 9000, () -> x.pass(48));
        ArchipelagoFerries y = made();
        passTo(y, 8953);
        Check.refused("13 now would be 9001", Check.STATE, () -> y.pass(48));
        Check.due("13 nothing goes by", 8953, y::now);
        Check.due("13 one less", 9000, () -> y.pass(47));
        Check.refused("13 not one more", Check.STATE, () -> y.pass(1));
    }

    /** "in each hour that comes, now included at first, sailings that are PLANNED for it are looked at" */
    private static void passLooksAtNowFirst() {
        ArchipelagoFerries x = Worlds.oneShip(1, 10);
        x.plan(0, 1, 0, 10);
        x.plan(0, 0, 1, 10);
        x.plan(0, 1, 2, 10);
        x.plan(0, 0, 3, 10);
        int[] sailed = {0, 0, 0, 0};
        for (int hour = 0; hour < 4; hour++) {
            for (int i = 0; i < 4; i++) {
                int asked = i;
                Check.due("13 in hour " + hour + ", sailing " + i, sailed[i], () -> x.state(asked));
            }
            x.pass(1);
            sailed[hour] = 2;
        }
        ArchipelagoFerries y = Worlds.oneShip(1, 10);
        y.plan(0, 1, 0, 10);
        y.plan(0, 0, 47, 10);
        y.plan(0, 1, 48, 10);
        y.pass(48);
        Check.due("13 now", 2, () -> y.state(0));
        Check.due("13 the last hour that goes by", 2, () -> y.state(1));
        Check.due("13 not the hour that is now then", 0, () -> y.state(2));
        y.pass(1);
        Check.due("13 that by the next pass()", 2, () -> y.state(2));
        ArchipelagoFerries z = Worlds.oneShip(1, 10);
        passTo(z, 8990);
        z.plan(0, 1, 8999, 10);
        z.plan(0, 0, 9000, 10);
        z.pass(10);
        Check.due("13 the last hour of all", 2, () -> z.state(0));
        Check.due("13 never looked at", 0, () -> z.state(1));
    }

    private static void now() {
        ArchipelagoFerries x = made();
        Check.due("14 at first", 0, x::now);
        x.pass(1);
        Check.due("14 one hour on", 1, x::now);
        x.pass(48);
        Check.due("14 more", 49, x::now);
        Check.refused("14 a refused pass()", Check.ARGUMENT, () -> x.pass(49));
        Check.due("14 changes nothing", 49, x::now);
        Check.due("14 at last", 9000, () -> at(9000).now());
    }

    /** Each way in which a sailing can be, by the shortest way that leads there. */
    private static void state() {
        index("15 sailing", 1, v -> cancelledTwice().state(v));
        ArchipelagoFerries x = Worlds.twoShips();
        x.ship(0, 1, 10, 1, 4, 10);
        x.ship(2, 1, 10, 1, 1, 10);
        x.plan(0, 1, 6, 10);
        Check.due("15 PLANNED", 0, () -> x.state(0));
        x.plan(1, 0, 6, 10);
        x.plan(2, 1, 6, 10);
        x.plan(3, 1, 6, 10);
        x.plan(0, 0, 7, 10);
        x.plan(1, 1, 8, 10);
        x.plan(1, 0, 9, 10);
        x.plan(0, 1, 10, 10);
        x.hinder(2, 0, 7, 7);
        x.hinder(0, 0, 7, 8);
        x.hinder(1, 0, 9, 10);
        x.cancel(6);
        x.pass(11);
        int[] due = {2, 2, 21, 51, 11, 31, 71, 11};
        for (int i = 0; i < due.length; i++) {
            int asked = i;
            Check.due("15 sailing " + i, due[i], () -> x.state(asked));
        }
        x.hinder(1, 0, 11, 11);
        x.plan(1, 1, 11, 10);
        x.plan(0, 0, 11, 10);
        x.crew(3, 0, 0);
        x.plan(3, 1, 11, 10);
        x.pass(1);
        Check.due("15 even in a strike", 2, () -> x.state(8));
        Check.due("15 odd in a strike", 41, () -> x.state(9));
        Check.due("15 without fuel", 61, () -> x.state(10));
        x.cancel(x.plan(3, 1, 12, 10));
        Check.due("15 by cancel()", 71, () -> x.state(11));
    }

    private static ArchipelagoFerries cancelledTwice() {
        ArchipelagoFerries x = cancelled();
        x.cancel(x.plan(0, 1, 0, 1));
        return x;
    }

    private static void ends() {
        index("16 sailing", 1, v -> cancelledTwice().ends(v));
        ArchipelagoFerries x = Worlds.oneShip(1, 10);
        x.plan(0, 1, 0, 1);
        x.plan(0, 0, 5, 400);
        x.cancel(1);
        x.plan(0, 0, 5, 391);
        Check.due("16 when it would end", 1, () -> x.ends(0));
        x.pass(6);
        Check.due("16 when it ended", 1, () -> x.ends(0));
        Check.due("16 when one that was cancelled would", 45, () -> x.ends(1));
        Check.due("16 when one that could not sail would", 45, () -> x.ends(2));
        ArchipelagoFerries y = Worlds.oneShip(1, 1);
        Check.due("16 the latest end there is", 10400, () -> y.ends(y.plan(0, 1, 10000, 400)));
    }

    /** "NONE if it did not sail, or there are no buses" */
    private static void busAfter() {
        index("17 sailing", 1, v -> cancelledTwice().busAfter(v));
        ArchipelagoFerries x = Worlds.oneShip(1, 10);
        x.plan(0, 1, 0, 30);
        x.plan(0, 0, 5, 10);
        x.bus(1, 1, 0);
        Check.due("17 planned", -1, () -> x.busAfter(0));
        x.cancel(1);
        x.bus(0, 1, 0);
        Check.due("17 cancelled", -1, () -> x.busAfter(1));
        x.pass(1);
        Check.due("17 at sea, it sailed", 0, () -> x.busAfter(0));
        x.bus(1, 12, 2);
        Check.due("17 by the buses as they are now: just gone", 11, () -> x.busAfter(0));
        x.bus(1, 12, 3);
        Check.due("17 at the hour of its end", 0, () -> x.busAfter(0));
        x.bus(1, 12, 4);
        Check.due("17 an hour later", 1, () -> x.busAfter(0));
        x.bus(1, 4, 0);
        Check.due("17 the next round", 1, () -> x.busAfter(0));
    }

    private static void place() {
        index("18 ship", 1, v -> at(0).place(v));
        ArchipelagoFerries x = Worlds.oneShip(1, 10);
        x.plan(0, 4, 1, 20);
        int[] due = {0, 0, -1, 4, 4};
        for (int hour = 0; hour < due.length; hour++) {
            Check.due("18 now, in hour " + hour, due[hour], () -> x.place(0));
            x.pass(1);
        }
        ArchipelagoFerries y = Worlds.oneShip(1, 10);
        y.hinder(0, 0, 0, 0);
        y.plan(0, 4, 0, 20);
        y.pass(1);
        Check.due("18 it stays, if the sailing is cancelled", 0, () -> y.place(0));
    }

    /** "NONE if it was at sea, also in the hour in which it sailed, but not in that in which it came, unless ..." */
    private static void placeByLine() {
        index("19 ship", 1, v -> at(0).placeByLine(v, 0));
        for (int now : new int[] {0, 1, 9000}) {
            argument("19 hour: 0 to now, " + now, 0, now, v -> at(now).placeByLine(0, v));
        }
        ArchipelagoFerries x = Worlds.oneShip(1, 10);
        x.plan(0, 4, 1, 20);
        x.plan(0, 5, 5, 10);
        x.plan(0, 3, 6, 10);
        int[] due = {0, -1, -1, 4, 4, -1, -1, 3, 3};
        Check.due("19 now, not yet looked at", 0, () -> x.placeByLine(0, 0));
        x.pass(1);
        Check.due("19 now, planned for now", 0, () -> x.placeByLine(0, 1));
        x.pass(7);
        for (int hour = 0; hour < due.length; hour++) {
            int asked = hour;
            Check.due("19 in hour " + hour, due[hour], () -> x.placeByLine(0, asked));
        }
        ArchipelagoFerries y = Worlds.oneShip(1, 10);
        y.hinder(0, 0, 2, 2);
        y.plan(0, 4, 0, 10);
        y.plan(0, 5, 2, 10);
        y.pass(3);
        y.ship(5, 1, 10, 1, 1, 1);
        Check.due("19 one that was cancelled does not count", 4, () -> y.placeByLine(0, 3));
        Check.due("19 a ship that was added late was at its home", 5, () -> y.placeByLine(1, 0));
        Check.due("19 with the sailings of its own", 5, () -> y.placeByLine(1, 3));
    }

    private static void fuel() {
        index("20 ship", 1, v -> at(0).fuel(v));
        ArchipelagoFerries x = made();
        x.ship(0, 1, 10, 1, 1, 40);
        x.crew(0, 0, 0);
        Check.due("20 none", 0, () -> x.fuel(0));
        x.fill(0, 1000);
        Check.due("20 the most", 1000, () -> x.fuel(0));
        x.plan(0, 1, 0, 400);
        Check.due("20 nothing for a plan", 1000, () -> x.fuel(0));
        x.pass(1);
        Check.due("20 all at once when it sails", 840, () -> x.fuel(0));
        x.pass(9);
        Check.due("20 nothing later", 840, () -> x.fuel(0));
    }

    private static void book() {
        index("21 person", 9, v -> planned().book(v, 0, 0, 0, 0, false));
        index("21 sailing", 0, v -> planned().book(0, v, 0, 0, 0, false));
        range("21 kind: CAR, VAN or TRUCK", 1, 3, Check.ARGUMENT, v -> planned().book(0, 0, v, 1, 1, false));
        for (int kind = 1; kind <= 3; kind++) {
            int k = kind;
            argument("21 length: 1 to 40 of " + k, 1, 40, v -> planned().book(0, 0, k, v, 1, false));
            argument("21 weight: 1 to 200 of " + k, 1, 200, v -> planned().book(0, 0, k, 1, v, true));
        }
        argument("21 length: 0 of a walker", 0, 0, v -> planned().book(0, 0, 0, v, 0, false));
        argument("21 weight: 0 of a walker", 0, 0, v -> planned().book(0, 0, 0, 0, v, false));
        Check.refused("21 isDangerous: false of a walker", Check.ARGUMENT, () -> planned().book(0, 0, 0, 0, 0, true));
        ArchipelagoFerries x = planned();
        for (int i = 0; i < 40; i++) {
            Check.due("21 returns the number", i, () -> x.book(0, 0, 1, 1, 1, false));
            Check.refused("21 a refused one takes none", Check.ARGUMENT, () -> x.book(0, 0, 1, 0, 1, false));
        }
        Check.refused("21 or there are 40", Check.STATE, () -> x.book(0, 0, 1, 1, 1, false));
    }

    private static ArchipelagoFerries planned() {
        return Worlds.ready(1, 10, 1);
    }

    private static ArchipelagoFerries booked() {
        ArchipelagoFerries x = Worlds.ready(2, 10, 100);
        x.plan(0, 0, 1, 10);
        x.plan(0, 1, 5, 10);
        x.book(0, 0, 0, 0, 0, false);
        x.book(0, 0, 1, 10, 15, false);
        x.book(0, 0, 1, 10, 15, false);
        x.book(0, 0, 2, 10, 15, false);
        x.book(0, 1, 2, 11, 15, false);
        return x;
    }

    /** "the sailing for which it waits, or on which it was taken; NONE if it was paid back" */
    private static void sailingOf() {
        index("22 booking", 4, v -> booked().sailingOf(v));
        ArchipelagoFerries x = booked();
        int[][] due = {{0, 0, 0, 0, 1}, {0, 0, 0, 2, 1}, {0, 0, 0, 2, -1}};
        for (int hour = 0; hour < 3; hour++) {
            for (int i = 0; i < 5; i++) {
                int asked = i;
                Check.due("22 in hour " + hour + ", booking " + i, due[hour][i], () -> x.sailingOf(asked));
            }
            x.pass(1);
        }
    }

    /** "the lane; NONE of a walker, or if it was not taken" */
    private static void lane() {
        index("23 booking", 4, v -> booked().lane(v));
        ArchipelagoFerries x = booked();
        Check.due("23 not yet", -1, () -> x.lane(1));
        x.pass(2);
        int[] due = {-1, 0, 1, -1, -1};
        for (int i = 0; i < 5; i++) {
            int asked = i;
            Check.due("23 booking " + i, due[i], () -> x.lane(asked));
        }
        x.pass(4);
        Check.due("23 taken by a later one", 0, () -> x.lane(3));
    }

    /** "what the person paid for a booking, 0 if it was paid back" */
    private static void paid() {
        index("24 booking", 4, v -> booked().paid(v));
        ArchipelagoFerries x = booked();
        int[] ahead = {20, 50, 50, 80, 80};
        int[] behind = {20, 50, 50, 80, 0};
        for (int i = 0; i < 5; i++) {
            int asked = i;
            Check.due("24 booking " + i, ahead[i], () -> x.paid(asked));
        }
        x.pass(6);
        for (int i = 0; i < 5; i++) {
            int asked = i;
            Check.due("24 behind, booking " + i, behind[i], () -> x.paid(asked));
        }
    }

    private static void taken() {
        index("25 sailing", 2, v -> booked().taken(v));
        ArchipelagoFerries x = booked();
        Check.due("25 planned", 0, () -> x.taken(0));
        x.pass(2);
        Check.due("25 with a walker, without those that went over", 3, () -> x.taken(0));
        Check.due("25 without those that were paid back", 0, () -> x.taken(1));
        Check.due("25 those that wait are not taken", 0, () -> x.taken(2));
        x.cancel(2);
        Check.due("25 cancelled", 0, () -> x.taken(2));
    }

    /** "the left one less the right one"; "if it did not sail" */
    private static void list() {
        index("26 sailing", 0, v -> {
            ArchipelagoFerries x = Worlds.ready(1, 10, 1);
            x.pass(1);
            return x.list(v);
        });
        int[][] weights = {{20}, {10, 30}, {15, 15}};
        int[] due = {20, -20, 0};
        for (int i = 0; i < due.length; i++) {
            ArchipelagoFerries x = Worlds.ready(2, 10, 100);
            for (int weight : weights[i]) {
                x.book(0, 0, 1, 10, weight, false);
            }
            Check.refused("26 planned", Check.NO_ELEMENT, () -> x.list(0));
            x.plan(0, 0, 1, 10);
            x.pass(2);
            Check.due("26 left less right", due[i], () -> x.list(0));
            Check.due("26 nothing of the sailing before", 0, () -> x.list(1));
            Check.refused("26 cancelled", Check.NO_ELEMENT, () -> x.list(cancelledOne(x)));
        }
    }

    private static int cancelledOne(ArchipelagoFerries x) {
        int number = x.plan(0, 5, 100, 10);
        x.cancel(number);
        return number;
    }

    private static void account() {
        argument("27 line: FARES, STATE, FUEL", 0, 2, v -> made().account(v));
        ArchipelagoFerries x = Worlds.ready(1, 10, 1);
        x.plan(0, 0, 1, 399);
        x.reside(0, 1);
        x.book(0, 1, 1, 1, 1, false);
        Check.due("27 what people paid", 997, () -> x.account(0));
        Check.due("27 what the state paid", 998, () -> x.account(1));
        Check.due("27 what was spent", -3000, () -> x.account(2));
        x.cancel(1);
        Check.due("27 less what was paid back", 0, () -> x.account(0));
        Check.due("27 by the state too", 0, () -> x.account(1));
        Check.due("27 fuel is not given back", -3000, () -> x.account(2));
        ArchipelagoFerries y = Worlds.oneShip(1, 40);
        y.plan(0, 1, 0, 400);
        for (int i = 0; i < 40; i++) {
            y.book(0, 0, 3, 1, 1, false);
        }
        Check.due("27 the most that can be paid", 40 * 8000, () -> y.account(0));
        Check.due("27 the most that can be found", 40 * 8000, () -> y.accountAnew(0));
    }

    /** "found from all bookings that were not paid back" */
    private static void accountAnew() {
        argument("28 line: FARES or STATE", 0, 1, v -> made().accountAnew(v));
        ArchipelagoFerries x = Worlds.ready(1, 10, 1);
        x.plan(0, 0, 1, 10);
        x.reside(0, 1);
        x.book(0, 0, 0, 0, 0, false);
        x.book(0, 0, 1, 10, 1, false);
        x.book(0, 0, 1, 10, 1, false);
        x.book(1, 1, 0, 0, 0, false);
        Check.due("28 all", 10 + 25 + 25 + 20, () -> x.accountAnew(0));
        Check.due("28 all of the state", 10 + 25 + 25, () -> x.accountAnew(1));
        x.pass(1);
        Check.due("28 taken and waiting ones", 10 + 25 + 20, () -> x.accountAnew(0));
        Check.due("28 taken ones of the state", 10 + 25, () -> x.accountAnew(1));
        Check.due("28 the same as is kept", 55, () -> x.account(0));
        Check.due("28 the same of the state", 35, () -> x.account(1));
    }
}
