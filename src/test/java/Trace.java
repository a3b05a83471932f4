import java.util.Locale;

/** All that can be asked of an object, as one text; two objects with one history tell the same. */
final class Trace {
    private final ArchipelagoFerries x;
    private final StringBuilder told = new StringBuilder();

    private Trace(ArchipelagoFerries x) {
        this.x = x;
    }

    /** What the object answers as it is. */
    static String asItIs(ArchipelagoFerries x) {
        Trace trace = new Trace(x);
        trace.askAll();
        return trace.told.toString();
    }

    /** What it answers when it goes on: what is held inside, such as storms and who was replaced, shows by then. */
    static String whenItGoesOn(ArchipelagoFerries x) {
        Trace trace = new Trace(x);
        trace.goOn();
        trace.askAll();
        return trace.told.toString();
    }

    private String tell(String name, Check.Call call) {
        String answer = Check.answer(call);
        told.append(String.format(Locale.ROOT, "%s = %s%n", name, answer));
        return answer;
    }

    private boolean isThere(String name, Check.Call call) {
        return !tell(name, call).equals("throws." + Check.OUT_OF_BOUNDS);
    }

    private void goOn() {
        int now = x.now();
        tell("cancel 6", () -> x.cancel(6));
        tell("replace 3", () -> x.replace(3, 1));
        for (int sailing = 0; sailing < 6; sailing++) {
            int asked = sailing;
            tell("replace " + asked, () -> x.replace(asked, 0));
        }
        for (int ship = 0; ship < 4; ship++) {
            int asked = ship;
            tell("fill " + asked, () -> x.fill(asked, 1));
            for (int i = 0; i < 3; i++) {
                int to = (ship + 1 + i) % 6;
                int hour = now + 15 + 10 * i;
                tell("plan " + asked, () -> x.plan(asked, to, hour, 20));
            }
        }
        for (int sailing = 0; sailing < 4; sailing++) {
            int asked = sailing;
            tell("book on " + asked, () -> x.book(0, asked, 1, 9, 9, true));
        }
        tell("pass", () -> x.pass(1));
        tell("pass", () -> x.pass(48));
    }

    private void askAll() {
        tell("now", x::now);
        for (int line = 0; line < 3; line++) {
            int asked = line;
            tell("account " + line, () -> x.account(asked));
            tell("accountAnew " + line, () -> x.accountAnew(asked));
        }
        for (int i = 0; askShip(i); i++);
        for (int i = 0; askCrew(i); i++);
        for (int i = 0; askSailing(i); i++);
        for (int i = 0; askBooking(i); i++);
        for (int person = 0; person < 10; person++) {
            int asked = person;
            tell("resided " + person, () -> x.reside(asked, -1));
        }
    }

    private boolean askShip(int i) {
        return isThere("place " + i, () -> x.place(i)) && isThere("fuel " + i, () -> x.fuel(i));
    }

    private boolean askCrew(int i) {
        return isThere("hours " + i, () -> x.hours(i, 0)) && isThere("hours " + i, () -> x.hours(i, 1));
    }

    private boolean askSailing(int i) {
        if (!isThere("state " + i, () -> x.state(i))) {
            return false;
        }
        tell("ends " + i, () -> x.ends(i));
        tell("busAfter " + i, () -> x.busAfter(i));
        tell("taken " + i, () -> x.taken(i));
        tell("list " + i, () -> x.list(i));
        return true;
    }

    private boolean askBooking(int i) {
        if (!isThere("sailingOf " + i, () -> x.sailingOf(i))) {
            return false;
        }
        tell("lane " + i, () -> x.lane(i));
        tell("paid " + i, () -> x.paid(i));
        return true;
    }
}
