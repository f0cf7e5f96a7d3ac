/** What the tests of the project share: comparing, counting, and some airlines to begin with. */
final class Check {
    private int passed = 0;
    private int failed = 0;

    void same(String what, Object got, Object want) {
        if (String.valueOf(got).equals(String.valueOf(want))) {
            passed++;
        } else {
            failed++;
            System.out.println(what + " answered " + got + ", due is " + want);
        }
    }

    /** A call on an airline, with a number to try. */
    interface Trial {
        Object on(RunwayLoom x, int number);
    }

    /** What a call answers for each of some numbers, each on an airline of its own. */
    static String each(java.util.function.IntFunction<Object> answer, int... numbers) {
        StringBuilder text = new StringBuilder();
        for (int number : numbers) {
            text.append(text.length() == 0 ? "" : " ").append(outcome(() -> answer.apply(number)));
        }
        return text.toString();
    }

    /** An exception's simple name, or what the call answered. */
    static String outcome(java.util.function.Supplier<Object> call) {
        try {
            return String.valueOf(call.get());
        } catch (RuntimeException e) {
            return e.getClass().getSimpleName();
        }
    }

    void index(String what, java.util.function.Supplier<Object> call) {
        same(what, outcome(call), "IndexOutOfBoundsException");
    }

    void argument(String what, java.util.function.Supplier<Object> call) {
        same(what, outcome(call), "IllegalArgumentException");
    }

    void state(String what, java.util.function.Supplier<Object> call) {
        same(what, outcome(call), "IllegalStateException");
    }

    void unsupported(String what, java.util.function.Supplier<Object> call) {
        same(what, outcome(call), "UnsupportedOperationException");
    }

    void missing(String what, java.util.function.Supplier<Object> call) {
        same(what, outcome(call), "NoSuchElementException");
    }

    void end(String name) {
        System.out.println(name + ": " + passed + " as due, " + failed + " not");
        if (failed != 0) {
            System.exit(1);
        }
    }

    static String log(RunwayLoom x) {
        StringBuilder text = new StringBuilder();
        int length = x.logLength();
        for (int i = 0; i < length; i++) {
            text.append(x.logAt(i));
        }
        return text.toString();
    }

    /** The rows of the log of one flight. */
    static String log(RunwayLoom x, int flight) {
        StringBuilder text = new StringBuilder();
        for (String row : log(x).split(";")) {
            if (row.endsWith(String.valueOf(flight))) {
                text.append(row).append(';');
            }
        }
        return text.toString();
    }

    /** Everything that can be asked of an airline. */
    static String picture(RunwayLoom x) {
        StringBuilder text = new StringBuilder(log(x));
        for (int i = 0; i < 10; i++) {
            int f = i;
            text.append(' ').append(outcome(() -> x.state(f))).append(outcome(() -> x.cause(f)))
                    .append(outcome(() -> x.root(f))).append(outcome(() -> x.standOf(f)));
            for (char event : "DPTLE".toCharArray()) {
                text.append(' ').append(outcome(() -> x.minuteOf(f, event)));
            }
        }
        for (int i = 0; i < 12; i++) {
            int g = i;
            text.append(' ').append(outcome(() -> x.lateness(g))).append(outcome(() -> x.lastOf(g)))
                    .append(outcome(() -> x.isStranded(g)));
        }
        return text + " " + x.harm() + " " + x.paid() + " " + x.missed() + " " + x.lateBags() + " " + x.isSound()
                + " " + outcome(() -> x.onTimeShare()) + " " + outcome(() -> x.meanLateness());
    }

    /** Everything that can be found by changing: what was told, and how many there are of each. It changes all. */
    static String lastPicture(RunwayLoom x) {
        StringBuilder text = new StringBuilder(picture(x));
        for (int i = 0; i < 10; i++) {
            int f = i;
            text.append(' ').append(outcome(() -> x.hold(f, 0))).append(outcome(() -> x.waitFor(f, 0)))
                    .append(outcome(() -> x.slot(f, 500))).append(outcome(() -> x.cancel(f)));
        }
        for (int a = 0; a < 5; a++) {
            for (int to = 0; to < 4; to++) {
                int aircraft = a;
                int airport = to;
                text.append(' ').append(outcome(() -> x.fault(aircraft, airport)));
                text.append(outcome(() -> x.fly(aircraft, airport, 70)));
            }
        }
        return text + outcome(() -> x.setPads(0)) + outcome(() -> x.addAircraft(0, 0, 20, 1, 1, 1))
                + outcome(() -> x.addCrew(0, 0, 1, true)) + outcome(() -> x.addStand(0, true))
                + outcome(() -> x.addFlight(0, 1, 0, 0, 0)) + outcome(() -> x.addGroup(0, -1, 1, 0, true))
                + outcome(() -> x.tell('x', 0, 0, 0, 0)) + outcome(() -> x.turnRunway(0));
    }

    /** An aircraft of family 1 and a rested crew at an airport, with a first flight of both. */
    static int add(RunwayLoom x, int from, int to, int off) {
        return addOf(x, 1, from, to, off);
    }

    static int addOf(RunwayLoom x, int family, int from, int to, int off) {
        int aircraft = x.addAircraft(family, from, 30, 40, 900, 9);
        int crew = x.addCrew(from, 360, 7, true);
        return x.addFlight(from, to, off, aircraft, crew);
    }

    /** Two aircraft of family 1 and their crews at home, and a stand. */
    static RunwayLoom home() {
        RunwayLoom x = new RunwayLoom();
        x.addAircraft(1, 0, 30, 60, 900, 9);
        x.addAircraft(1, 0, 30, 40, 900, 9);
        x.addCrew(0, 360, 7, true);
        x.addCrew(0, 360, 7, false);
        x.addStand(1, true);
        return x;
    }

    /** A flight out, 0, and one back, 1, of the first aircraft. */
    static RunwayLoom outAndBack() {
        RunwayLoom x = home();
        x.addFlight(0, 1, 420, 0, 0);
        x.addFlight(1, 0, 520, 0, 0);
        return x;
    }

    /** Something of everything, so that a change of anything shows. */
    static RunwayLoom rich() {
        RunwayLoom x = outAndBack();
        x.addFlight(0, 2, 620, 0, 0);
        x.addFlight(0, 3, 425, 1, 1);
        x.slot(2, 640);
        x.slot(3, 445);
        x.hold(0, 10);
        x.waitFor(2, 15);
        x.addGroup(0, 1, 10, 1, true);
        x.addGroup(1, 2, 12, 0, false);
        x.addGroup(3, -1, 20, 2, true);
        x.tell('h', 1, 15, 410, 415);
        x.turnRunway(600);
        x.ice(420, 450);
        return x;
    }
}
