/** Edges of what is told and asked: first and last numbers, how many there may be, and what is refused first. */
public final class RangeTest {
    private static final Check c = new Check();
    private static final String INDEX = "IndexOutOfBoundsException";
    private static final String ARGUMENT = "IllegalArgumentException";
    private static final String STATE = "IllegalStateException";
    private static final String UNSUPPORTED = "UnsupportedOperationException";
    private static final String MISSING = "NoSuchElementException";
    private static final String UNTOUCHED = Check.lastPicture(Check.rich());

    public static void main(String[] args) {
        flyingTimes();
        aircraft();
        crews();
        runway();
        flights();
        pairsOfAirports();
        plans();
        groups();
        messages();
        letters();
        counts();
        fullAirline();
        numbersOfFlights();
        numbersOfGroups();
        numbersOfAircraftAndCrews();
        numbersOfSigns();
        sumsOfFlights();
        firstOfSeveralExceptions();
        firstOfSeveralExceptionsOfFlights();
        whatIsGivenBack();
        c.end("RangeTest");
    }

    private static boolean isThrown(String outcome) {
        return outcome.endsWith("Exception");
    }

    /** A call on an airline with something of everything is refused, and changes nothing there. */
    private static void refused(String what, String exception, Check.Trial trial, int number) {
        RunwayLoom x = Check.rich();
        c.same(what + " of " + number, Check.outcome(() -> trial.on(x, number)), exception);
        c.same(what + " of " + number + " changes nothing", Check.lastPicture(x), UNTOUCHED);
    }

    private static void allowed(String what, Check.Trial trial, int number) {
        RunwayLoom x = Check.rich();
        String outcome = Check.outcome(() -> trial.on(x, number));
        c.same(what + " of " + number + ": " + outcome, isThrown(outcome), false);
    }

    /** The numbers around both ends of what is allowed, and the ones farthest away. */
    private static void range(String what, int least, int most, String exception, Check.Trial trial) {
        atMost(what, most, exception, trial);
        allowed(what, trial, least);
        allowed(what, trial, least + 1);
        refused(what, exception, trial, least - 1);
        refused(what, exception, trial, Integer.MIN_VALUE);
    }

    private static void atMost(String what, int most, String exception, Check.Trial trial) {
        allowed(what, trial, most - 1);
        allowed(what, trial, most);
        refused(what, exception, trial, most + 1);
        refused(what, exception, trial, Integer.MAX_VALUE);
    }

    private static void flyingTimes() {
        range("2 minutes", 30, 300, ARGUMENT, (x, n) -> x.fly(0, 1, n));
        range("2 from", 0, 3, INDEX, (x, n) -> x.fly(n, n == 0 ? 3 : 0, 60));
        range("2 to", 0, 3, INDEX, (x, n) -> x.fly(n == 0 ? 3 : 0, n, 60));
        RunwayLoom x = new RunwayLoom();
        for (int from = 0; from < 4; from++) {
            for (int to = 0; to < 4; to++) {
                int one = from;
                int two = to;
                if (from == to) {
                    refused("2 the same airport", ARGUMENT, (y, n) -> y.fly(n, n, 60), from);
                } else {
                    c.same("2 at first, and both ways", x.fly(one, two, 30 + from), from < to ? 60 : 30 + to);
                }
            }
        }
    }

    private static void aircraft() {
        range("3 family", 0, 2, ARGUMENT, (x, n) -> x.addAircraft(n, 0, 30, 60, 900, 9));
        range("3 airport", 0, 3, INDEX, (x, n) -> x.addAircraft(1, n, 30, 60, 900, 9));
        range("3 turn", 20, 90, ARGUMENT, (x, n) -> x.addAircraft(1, 0, n, 60, 900, 9));
        range("3 seats", 1, 300, ARGUMENT, (x, n) -> x.addAircraft(1, 0, 30, n, 900, 9));
        range("3 minutes", 0, 2000, ARGUMENT, (x, n) -> x.addAircraft(1, 0, 30, 60, n, 9));
        range("3 landings", 0, 20, ARGUMENT, (x, n) -> x.addAircraft(1, 0, 30, 60, 900, n));
        range("4 aircraft", 0, 1, INDEX, (x, n) -> x.fault(n, 3));
        range("4 airport", 0, 3, INDEX, (x, n) -> x.fault(0, n));
    }

    private static void crews() {
        range("5 airport", 0, 3, INDEX, (x, n) -> x.addCrew(n, 360, 7, true));
        range("5 report", 0, 1439, ARGUMENT, (x, n) -> x.addCrew(0, n, 7, true));
        range("5 families", 1, 7, ARGUMENT, (x, n) -> x.addCrew(0, 360, n, true));
    }

    private static void runway() {
        range("6 family", 0, 2, ARGUMENT, (x, n) -> x.addStand(n, true));
        range("7 minute", 0, 1999, ARGUMENT, (x, n) -> x.turnRunway(n));
        range("8 from", 0, 1999, ARGUMENT, (x, n) -> x.ice(n, 1999));
        range("8 from, for none", 0, 1999, ARGUMENT, (x, n) -> x.ice(n, -5));
        atMost("8 to", 1999, ARGUMENT, (x, n) -> x.ice(400, n));
        range("9 pads", 0, 3, ARGUMENT, (x, n) -> x.setPads(n));
        RunwayLoom x = new RunwayLoom();
        c.same("8 how many minutes", Check.each(to -> x.ice(400, to), 398, 399, 400, 401, 1999), "0 0 1 2 1600");
        c.same("8 none", Check.each(to -> x.ice(0, to), Integer.MIN_VALUE, -2, -1, 0, 1), "0 0 0 1 2");
        c.same("8 at the end", Check.each(from -> x.ice(from, 1999), 1997, 1998, 1999), "3 2 1");
        c.same("7 how often", Check.each(minute -> x.turnRunway(minute), 5, 5, 7, 8), "1 2 3 " + STATE);
    }

    private static void flights() {
        range("10 off", 0, 1439, ARGUMENT, (x, n) -> x.addFlight(0, 1, n, 0, 0));
        range("10 aircraft", 0, 1, INDEX, (x, n) -> x.addFlight(0, 1, 400, n, 0));
        range("10 crew", 0, 1, INDEX, (x, n) -> x.addFlight(0, 1, 400, 0, n));
    }

    private static void pairsOfAirports() {
        for (int from = -1; from <= 4; from++) {
            for (int to = -1; to <= 4; to++) {
                boolean isThere = from >= 0 && from <= 3 && to >= 0 && to <= 3;
                boolean isOneHome = (from == 0) != (to == 0);
                int start = from;
                Check.Trial trial = (x, n) -> x.addFlight(start, n, 400, 0, 0);
                if (isThere && isOneHome) {
                    allowed("10 from " + from + " to", trial, to);
                } else {
                    refused("10 from " + from + " to", isThere ? ARGUMENT : INDEX, trial, to);
                }
            }
        }
    }

    private static void plans() {
        range("11 minute", 0, 1999, ARGUMENT, (x, n) -> x.slot(0, n));
        refused("11 not from home", UNSUPPORTED, (x, n) -> x.slot(1, n), 450);
        range("13 minutes", 0, 240, ARGUMENT, (x, n) -> x.hold(0, n));
        range("14 minutes", 0, 60, ARGUMENT, (x, n) -> x.waitFor(0, n));
        refused("12 none has a slot", UNSUPPORTED, (x, n) -> x.trade(n, 1), 0);
        refused("12 the first one has none", UNSUPPORTED, (x, n) -> x.trade(n, 2), 0);
        refused("12 the other one has none", UNSUPPORTED, (x, n) -> x.trade(2, n), 0);
        refused("12 the same one, without a slot", UNSUPPORTED, (x, n) -> x.trade(n, n), 1);
        refused("15 the same flight", UNSUPPORTED, (x, n) -> x.swap(n, n), 1);
        refused("15 the same aircraft", UNSUPPORTED, (x, n) -> x.swap(n, 2), 1);
        for (int family = 0; family <= 2; family++) {
            RunwayLoom x = Check.rich();
            x.addFlight(0, 1, 800, x.addAircraft(family, 0, 30, 60, 900, 9), 0);
            c.same("15 families 1 and " + family, Check.outcome(() -> x.swap(0, 4)), family == 1 ? 2 : UNSUPPORTED);
        }
    }

    private static void groups() {
        range("17 people", 1, 50, ARGUMENT, (x, n) -> x.addGroup(0, 1, n, 1, true));
        range("17 class", 0, 2, ARGUMENT, (x, n) -> x.addGroup(0, 1, 5, n, true));
        range("17 first", 0, 3, INDEX, (x, n) -> x.addGroup(n, -1, 5, 1, true));
        refused("17 second", INDEX, (x, n) -> x.addGroup(0, n, 5, 1, true), -2);
        refused("17 second", INDEX, (x, n) -> x.addGroup(0, n, 5, 1, true), Integer.MIN_VALUE);
        refused("17 second", INDEX, (x, n) -> x.addGroup(0, n, 5, 1, true), 4);
        refused("17 second", INDEX, (x, n) -> x.addGroup(0, n, 5, 1, true), Integer.MAX_VALUE);
        allowed("17 second", (x, n) -> x.addGroup(0, n, 5, 1, true), -1);
        allowed("17 second", (x, n) -> x.addGroup(0, n, 5, 1, true), 1);
        refused("17 second, the first one again", UNSUPPORTED, (x, n) -> x.addGroup(0, n, 5, 1, true), 0);
        refused("17 second, from home, too", UNSUPPORTED, (x, n) -> x.addGroup(0, n, 5, 1, true), 2);
        for (int to = 1; to <= 3; to++) {
            for (int from = 1; from <= 3; from++) {
                RunwayLoom x = Check.home();
                x.addFlight(0, to, 420, 0, 0);
                x.addFlight(from, 0, 620, 0, 0);
                c.same("17 to " + to + ", then from " + from, Check.outcome(() -> x.addGroup(0, 1, 5, 1, true)),
                        from == to ? 0 : UNSUPPORTED);
            }
        }
    }

    private static void messages() {
        range("18 hold", 0, 240, ARGUMENT, (x, n) -> x.tell('h', 0, n, 5, 6));
        for (int number : new int[] {Integer.MIN_VALUE, -1, 0, 240, 241, Integer.MAX_VALUE}) {
            allowed("18 no meaning for x", (x, n) -> x.tell('x', 0, n, 5, 6), number);
            allowed("18 no meaning for f", (x, n) -> x.tell('f', 0, n, 5, 6), number);
        }
        for (char kind : "hxf".toCharArray()) {
            range("18 happened, " + kind, 0, 1999, ARGUMENT, (x, n) -> x.tell(kind, 0, 0, n, 1999));
            range("18 comes, " + kind, 400, 1999, ARGUMENT, (x, n) -> x.tell(kind, 0, 0, 400, n));
            range("18 comes from 0 on, " + kind, 0, 1999, ARGUMENT, (x, n) -> x.tell(kind, 0, 0, 0, n));
            range("18 both, " + kind, 0, 1999, ARGUMENT, (x, n) -> x.tell(kind, 0, 0, n, n));
        }
    }

    private static void letters() {
        StringBuilder kinds = new StringBuilder();
        StringBuilder events = new StringBuilder();
        for (int i = 0; i < 512; i++) {
            char letter = (char) i;
            RunwayLoom x = Check.outAndBack();
            if (!Check.outcome(() -> x.tell(letter, 0, 0, 5, 6)).equals(ARGUMENT)) {
                kinds.append(letter);
            }
            if (!Check.outcome(() -> x.minuteOf(1, letter)).equals(ARGUMENT)) {
                events.append(letter);
            }
        }
        c.same("18 kinds", kinds, "fhx");
        c.same("20 events", events, "DELPT");
        refused("18 no kind", ARGUMENT, (x, n) -> x.tell((char) n, 0, 0, 5, 6), 'H');
        refused("20 no event", ARGUMENT, (x, n) -> x.minuteOf(0, (char) n), 'x');
        refused("20 it did not come", MISSING, (x, n) -> x.minuteOf(0, (char) n), 'L');
        refused("21 it got none", MISSING, (x, n) -> x.standOf(n), 0);
    }

    private static int addAircraft(RunwayLoom x) {
        return x.addAircraft(1, 0, 30, 60, 900, 9);
    }

    private static int addCrew(RunwayLoom x) {
        return x.addCrew(0, 360, 7, true);
    }

    private static int addFlight(RunwayLoom x) {
        return x.addFlight(0, 1, 420, 0, 0);
    }

    private static int addGroup(RunwayLoom x) {
        return x.addGroup(0, -1, 1, 0, true);
    }

    /** Adds as many as there may be to an airline with some already, and then two more, which are refused. */
    private static void count(String what, int some, int most, int step, Check.Trial add) {
        RunwayLoom x = Check.rich();
        RunwayLoom twin = Check.rich();
        for (int i = some; i < most; i++) {
            c.same(what + " " + i, add.on(x, i), i + step);
            add.on(twin, i);
        }
        c.same(what + ", one more", Check.outcome(() -> add.on(x, most)), STATE);
        c.same(what + ", two more", Check.outcome(() -> add.on(x, most)), STATE);
        c.same(what + ", one more changes nothing", Check.lastPicture(x), Check.lastPicture(twin));
    }

    private static void counts() {
        count("3 aircraft", 2, 5, 0, (x, n) -> addAircraft(x));
        count("5 crews", 2, 5, 0, (x, n) -> addCrew(x));
        count("6 stands", 1, 6, 0, (x, n) -> x.addStand(1, n % 2 == 0));
        count("7 turns", 1, 3, 1, (x, n) -> x.turnRunway(600 + n));
        count("10 flights", 4, 10, 0, (x, n) -> addFlight(x));
        count("17 groups", 3, 12, 0, (x, n) -> addGroup(x));
        count("18 messages", 1, 10, 1, (x, n) -> x.tell('h', 2, n, 500 - n, 550 + n));
    }

    /** Everything that there may be, added from none on; the day runs with all of it. */
    private static RunwayLoom full() {
        RunwayLoom x = new RunwayLoom();
        for (int i = 0; i < 5; i++) {
            c.same("3 number", x.addAircraft(i % 3, 0, 20, 100, 2000, 20), i);
            c.same("5 number", addCrew(x), i);
        }
        for (int i = 0; i < 6; i++) {
            c.same("6 number", x.addStand(i % 3, i < 3), i);
        }
        for (int i = 0; i < 10; i++) {
            int away = 1 + i % 3;
            boolean isOut = i < 5;
            c.same("10 number", x.addFlight(isOut ? 0 : away, isOut ? away : 0, 420 + 20 * i, i % 5, i % 5), i);
        }
        for (int i = 0; i < 12; i++) {
            c.same("17 number", x.addGroup(i % 10, -1, 1 + i, i % 3, i % 2 == 0), i);
        }
        for (int i = 0; i < 10; i++) {
            c.same("18 how many", x.tell(i < 8 ? 'h' : 'f', i, 3 * i, 300 + i, 400 + i), i + 1);
        }
        return x;
    }

    private static void fullAirline() {
        int flights = 512 + 16 + 1;
        RunwayLoom x = full();
        boolean isBest = x.isBest(flights);
        int before = x.harm();
        int least = x.recover(flights);
        c.same("37 with all there may be", x.isSound(), true);
        c.same("34 with all there may be", isBest, least == before);
        c.same("33 with all there may be", both(x.harm(), least <= before), both(least, true));
    }

    /** A number of a flight, group, aircraft or crew: there are none, one, or as many as there may be. */
    private static void numbers(String what, Check.Trial fill, int most, Check.Trial trial) {
        for (int count : new int[] {0, 1, most}) {
            for (int number : new int[] {Integer.MIN_VALUE, -1, 0, count - 1, count, Integer.MAX_VALUE}) {
                boolean isThere = number >= 0 && number < count;
                RunwayLoom x = Check.home();
                fill.on(x, count);
                RunwayLoom twin = Check.home();
                fill.on(twin, count);
                String outcome = Check.outcome(() -> trial.on(x, number));
                c.same(what + " " + number + " of " + count + ": " + outcome, outcome.equals(INDEX), !isThere);
                if (!isThere) {
                    c.same(what + " " + number + " of " + count + " changes nothing", Check.lastPicture(x),
                            Check.lastPicture(twin));
                }
            }
        }
    }

    private static Object fillFlights(RunwayLoom x, int count) {
        for (int i = 0; i < count; i++) {
            x.addFlight(i % 2, 1 - i % 2, 420 + 90 * i, i % 3 == 0 ? 1 : 0, 0);
        }
        return null;
    }

    private static Object fillGroups(RunwayLoom x, int count) {
        fillFlights(x, 10);
        for (int i = 0; i < count; i++) {
            x.addGroup(i % 10, -1, 1 + i, i % 3, true);
        }
        return null;
    }

    private static void flightNumber(String what, Check.Trial trial) {
        numbers(what, RangeTest::fillFlights, 10, trial);
    }

    private static void numbersOfFlights() {
        flightNumber("11 flight", (x, n) -> x.slot(n, 450));
        flightNumber("12 flight", (x, n) -> x.trade(n, 0));
        flightNumber("12 other", (x, n) -> x.trade(0, n));
        flightNumber("13 flight", (x, n) -> x.hold(n, 9));
        flightNumber("14 flight", (x, n) -> x.waitFor(n, 9));
        flightNumber("15 flight", (x, n) -> x.swap(n, 0));
        flightNumber("15 other", (x, n) -> x.swap(0, n));
        flightNumber("16 flight", (x, n) -> x.cancel(n));
        flightNumber("17 first", (x, n) -> x.addGroup(n, -1, 9, 1, true));
        flightNumber("17 second", (x, n) -> x.addGroup(0, n == -1 ? -2 : n, 9, 1, true));
        flightNumber("18 flight, h", (x, n) -> x.tell('h', n, 9, 5, 6));
        flightNumber("18 flight, x", (x, n) -> x.tell('x', n, 9, 5, 6));
        flightNumber("19 flight", (x, n) -> x.state(n));
        flightNumber("20 flight", (x, n) -> x.minuteOf(n, 'D'));
        flightNumber("21 flight", (x, n) -> x.standOf(n));
        flightNumber("22 flight", (x, n) -> x.cause(n));
        flightNumber("23 flight", (x, n) -> x.root(n));
    }

    private static void numbersOfGroups() {
        numbers("24 group", RangeTest::fillGroups, 12, (x, n) -> x.lateness(n));
        numbers("25 group", RangeTest::fillGroups, 12, (x, n) -> x.lastOf(n));
        numbers("26 group", RangeTest::fillGroups, 12, (x, n) -> x.isStranded(n));
    }

    private static void numbersOfAircraftAndCrews() {
        for (int count : new int[] {0, 1, 5}) {
            for (int number : new int[] {Integer.MIN_VALUE, -1, 0, count - 1, count, Integer.MAX_VALUE}) {
                String due = number >= 0 && number < count ? "0" : INDEX;
                RunwayLoom x = new RunwayLoom();
                addCrew(x);
                RunwayLoom y = new RunwayLoom();
                addAircraft(y);
                for (int i = 0; i < count; i++) {
                    addAircraft(x);
                    addCrew(y);
                }
                c.same("10 aircraft " + number + " of " + count,
                        Check.outcome(() -> x.addFlight(0, 1, 420, number, 0)), due);
                c.same("10 crew " + number + " of " + count,
                        Check.outcome(() -> y.addFlight(0, 1, 420, 0, number)), due);
                c.same("4 aircraft " + number + " of " + count, Check.outcome(() -> x.fault(number, 1)),
                        due.equals(INDEX) ? INDEX : "true");
            }
        }
    }

    private static void numbersOfSigns() {
        RunwayLoom none = new RunwayLoom();
        c.same("31 none", none.logLength(), 0);
        c.same("32 none", Check.each(i -> none.logAt(i), -1, 0, 1), INDEX + ' ' + INDEX + ' ' + INDEX);
        RunwayLoom x = new RunwayLoom();
        Check.add(x, 0, 1, 420);
        x.cancel(0);
        c.same("31 one row", x.logLength(), 4);
        c.same("32 both ends", Check.each(i -> x.logAt(i), Integer.MIN_VALUE, -1, 0, 1, 2, 3, 4, 5, Integer.MAX_VALUE),
                INDEX + ' ' + INDEX + " 0 x 0 ; " + INDEX + ' ' + INDEX + ' ' + INDEX);
        refused("32 a sign", INDEX, (y, n) -> y.logAt(n), -1);
        refused("32 a sign", INDEX, (y, n) -> y.logAt(n), Check.rich().logLength());
    }

    private static RunwayLoom withFlights(int count) {
        RunwayLoom x = Check.home();
        fillFlights(x, count);
        return x;
    }

    private static void sumOfFlights(String what, Check.Trial trial) {
        for (int count : new int[] {0, 1, 3, 4, 10}) {
            for (int bit = 0; bit < 32; bit++) {
                int flight = 1 << bit;
                c.same(what + " flight " + bit + " of " + count,
                        Check.outcome(() -> trial.on(withFlights(count), flight)).equals(ARGUMENT), bit >= count);
            }
            c.same(what + " none of " + count, Check.outcome(() -> trial.on(withFlights(count), 0)), UNSUPPORTED);
            c.same(what + " -1 of " + count, Check.outcome(() -> trial.on(withFlights(count), -1)), ARGUMENT);
        }
        int[] sums = {7, 11, 15, 0b1110000000, 0b1111000000, 0b1000100010, 0b1000100110, 1023};
        for (int sum : sums) {
            c.same(what + " of " + sum, Check.outcome(() -> trial.on(withFlights(10), sum)).equals(UNSUPPORTED),
                    Integer.bitCount(sum) > 3);
        }
        refused(what + " none", UNSUPPORTED, trial, 0);
        refused(what + " four", UNSUPPORTED, trial, 15);
        refused(what + " a flight that is none", ARGUMENT, trial, 16);
        refused(what + " one that is, and one that is none", ARGUMENT, trial, 17);
        refused(what + " five, one of them none", ARGUMENT, trial, 31);
        refused(what + " flight 31", ARGUMENT, trial, Integer.MIN_VALUE);
        refused(what + " flight 30", ARGUMENT, trial, 1 << 30);
    }

    private static void sumsOfFlights() {
        sumOfFlights("33", (x, n) -> x.recover(n));
        sumOfFlights("34", (x, n) -> x.isBest(n));
    }

    /** An airline with no room for anything more. */
    private static RunwayLoom noRoom() {
        RunwayLoom x = Check.rich();
        for (int i = 0; i < 12; i++) {
            Check.outcome(() -> addAircraft(x));
            Check.outcome(() -> addCrew(x));
            Check.outcome(() -> x.addStand(1, true));
            Check.outcome(() -> x.turnRunway(900));
            Check.outcome(() -> addFlight(x));
            Check.outcome(() -> addGroup(x));
            Check.outcome(() -> x.tell('h', 0, 0, 5, 6));
        }
        return x;
    }

    private static void first(String what, String exception, java.util.function.Function<RunwayLoom, Object> call) {
        RunwayLoom x = noRoom();
        c.same(what, Check.outcome(() -> call.apply(x)), exception);
        c.same(what + ", nothing changes", Check.lastPicture(x), Check.lastPicture(noRoom()));
    }

    private static void firstOfSeveralExceptions() {
        first("2 no airport, the same, no minutes", INDEX, x -> x.fly(4, 4, 29));
        first("2 no airport, no minutes", INDEX, x -> x.fly(0, -1, 301));
        first("3 no airport, no family, no room", INDEX, x -> x.addAircraft(3, 4, 30, 60, 900, 9));
        first("3 no airport, no room", INDEX, x -> x.addAircraft(1, -1, 30, 60, 900, 9));
        first("3 no seats, no room", ARGUMENT, x -> x.addAircraft(1, 0, 30, 0, 900, 9));
        first("3 no room", STATE, x -> x.addAircraft(1, 0, 30, 60, 900, 9));
        first("5 no airport, no report, no room", INDEX, x -> x.addCrew(4, 1440, 7, true));
        first("5 no airport, no room", INDEX, x -> x.addCrew(-1, 360, 7, true));
        first("5 no report, no room", ARGUMENT, x -> x.addCrew(0, -1, 7, true));
        first("5 no families, no room", ARGUMENT, x -> x.addCrew(0, 360, 8, true));
        first("5 no room", STATE, x -> x.addCrew(0, 360, 7, true));
        first("6 no family, no room", ARGUMENT, x -> x.addStand(3, true));
        first("6 no room", STATE, x -> x.addStand(2, true));
        first("7 no minute, no room", ARGUMENT, x -> x.turnRunway(2000));
        first("7 no room", STATE, x -> x.turnRunway(1999));
    }

    private static void firstOfSeveralExceptionsOfFlights() {
        first("10 no airport, no minute, no room", INDEX, x -> x.addFlight(0, 4, 1440, 0, 0));
        first("10 no aircraft, not home, no room", INDEX, x -> x.addFlight(1, 1, 400, 5, 0));
        first("10 no crew, no room", INDEX, x -> x.addFlight(0, 1, 400, 0, 5));
        first("10 home to home, no room", ARGUMENT, x -> x.addFlight(0, 0, 400, 0, 0));
        first("10 no minute, no room", ARGUMENT, x -> x.addFlight(0, 1, -1, 0, 0));
        first("10 no room", STATE, x -> x.addFlight(0, 1, 0, 0, 0));
        first("11 no flight, no minute", INDEX, x -> x.slot(10, 2000));
        first("11 not from home, no minute", UNSUPPORTED, x -> x.slot(1, -1));
        first("12 no other flight, no slot", INDEX, x -> x.trade(0, 10));
        first("12 no flight, no slot", INDEX, x -> x.trade(-1, 0));
        first("13 no flight, no minutes", INDEX, x -> x.hold(10, 241));
        first("14 no flight, no minutes", INDEX, x -> x.waitFor(-1, -1));
        first("15 the same one, and no such one", INDEX, x -> x.swap(10, 10));
        first("17 no first flight, no people, no room", INDEX, x -> x.addGroup(10, 0, 0, 0, true));
        first("17 no second flight, no class, no room", INDEX, x -> x.addGroup(0, 10, 5, 3, true));
        first("17 no people, not from there, no room", ARGUMENT, x -> x.addGroup(0, 2, 51, 0, true));
        first("17 no people, no room", ARGUMENT, x -> x.addGroup(0, 1, 0, 0, true));
        first("17 not from there, no room", UNSUPPORTED, x -> x.addGroup(0, 2, 5, 0, true));
        first("17 no room", STATE, x -> x.addGroup(0, 1, 5, 0, true));
        first("18 no flight, no kind, no room", INDEX, x -> x.tell('y', 10, 0, 5, 6));
        first("18 no flight, no room", INDEX, x -> x.tell('h', -1, 0, 5, 6));
        first("18 no kind, no room", ARGUMENT, x -> x.tell('y', 0, 0, 5, 6));
        first("18 no hold, no room", ARGUMENT, x -> x.tell('h', 0, 241, 5, 6));
        first("18 it comes ahead, no room", ARGUMENT, x -> x.tell('x', 0, 0, 5, 4));
        first("18 no room", STATE, x -> x.tell('x', 0, 0, 5, 5));
        first("20 no flight, no event", INDEX, x -> x.minuteOf(10, 'x'));
        first("33 no such flight, more than three", ARGUMENT, x -> x.recover(1024 + 15));
        first("34 no such flight, more than three", ARGUMENT, x -> x.isBest(-1));
    }

    private static String both(Object first, Object second) {
        return first + " " + second;
    }

    /** What a call sets at each end of its range is what the next one gives back. */
    private static void whatIsGivenBack() {
        for (int n : new int[] {30, 31, 299, 300}) {
            RunwayLoom x = Check.outAndBack();
            c.same("2 minutes of " + n, both(x.fly(1, 2, n), x.fly(2, 1, 60)), both(60, n));
        }
        for (int n : new int[] {0, 1, 239, 240}) {
            RunwayLoom x = Check.outAndBack();
            c.same("13 a hold of " + n, both(x.hold(0, n), x.hold(0, 5)), both(0, n));
        }
        for (int n : new int[] {0, 1, 59, 60}) {
            RunwayLoom x = Check.outAndBack();
            c.same("14 a wait of " + n, both(x.waitFor(0, n), x.waitFor(0, 5)), both(0, n));
        }
        for (int n : new int[] {0, 1, 1998, 1999}) {
            RunwayLoom x = Check.outAndBack();
            c.same("11 a slot of " + n, both(x.slot(0, n), x.trade(0, 0)), both(-1, n));
        }
        for (int n = 0; n <= 3; n++) {
            RunwayLoom x = new RunwayLoom();
            c.same("9 pads of " + n, both(x.setPads(n), x.setPads(1)), both(1, n));
        }
    }
}
