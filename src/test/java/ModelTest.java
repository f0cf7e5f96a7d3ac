import java.util.Random;
import java.util.function.Function;
import java.util.function.Supplier;

/**
 * Makes the same random calls on the class and on the model, and compares each answer or exception.
 * The random numbers come from fixed seeds, so that each run of the test makes the same calls.
 */
public final class ModelTest {
    private static int wrong = 0;
    private static int calls = 0;
    /** How many calls an object may take still; those behind them are left out. */
    private static int left;
    private static final StringBuilder seen = new StringBuilder();

    private static String answer(Supplier<Object> call) {
        try {
            return String.valueOf(call.get());
        } catch (RuntimeException e) {
            return "throws " + e.getClass().getSimpleName();
        }
    }

    private static void same(String call, Supplier<Object> one, Supplier<Object> two) {
        if (left < 1) {
            return;
        }
        left--;
        calls++;
        String got = answer(one);
        String want = answer(two);
        seen.append("  ").append(call).append(" -> ").append(got).append('\n');
        if (!got.equals(want)) {
            wrong++;
            if (wrong <= 3) {
                System.out.print(seen);
                System.out.println(call + " answered " + got + ", the model says " + want);
            }
        }
    }

    private final Random random;
    private final RunwayLoom loom = new RunwayLoom();
    private final Model model = new Model();
    private final boolean isBusy;
    private final boolean isHub;
    private final boolean isWrongAtTimes;

    private ModelTest(long seed) {
        random = new Random(seed);
        isBusy = random.nextBoolean();
        isHub = random.nextBoolean();
        isWrongAtTimes = random.nextInt(3) == 0;
    }

    private int pick(int low, int high) {
        return low + random.nextInt(high - low + 1);
    }

    /** A number of low to high, or at times one just outside, or far outside. */
    private int number(int low, int high) {
        int kind = isWrongAtTimes ? random.nextInt(40) : 9;
        switch (kind) {
            case 0: return low - 1;
            case 1: return high + 1;
            case 2: return random.nextInt();
            case 3: return low;
            case 4: return high;
            default: return pick(low, high);
        }
    }

    private int flight() {
        return number(0, Math.max(0, model.legs.size() - 1));
    }

    private int group() {
        return number(0, Math.max(0, model.parties.size() - 1));
    }

    private boolean coin() {
        return random.nextBoolean();
    }

    private void aircraft() {
        int family = number(0, isBusy ? 1 : 2);
        int airport = random.nextInt(4) == 0 ? number(0, 3) : 0;
        int turn = number(20, isBusy ? 90 : 40);
        int seats = random.nextInt(3) == 0 ? number(1, 300) : pick(30, 90);
        int minutes = random.nextInt(9) == 0 ? number(0, 400) : number(400, 2000);
        int landings = random.nextInt(9) == 0 ? number(0, 3) : number(3, 20);
        same("addAircraft(" + family + ", " + airport + ", " + turn + ", " + seats + ", " + minutes + ", " + landings + ")",
                () -> loom.addAircraft(family, airport, turn, seats, minutes, landings),
                () -> model.addAircraft(family, airport, turn, seats, minutes, landings));
    }

    private void crew() {
        boolean isPaired = model.teams.size() < model.planes.size() && random.nextInt(9) > 0;
        int airport = isPaired ? model.planes.get(model.teams.size()).airport : number(0, 3);
        int report = random.nextInt(9) == 0 ? number(0, 1439) : pick(300, 380);
        int families = random.nextInt(9) == 0 ? number(1, 7) : 7;
        boolean rested = coin();
        same("addCrew(" + airport + ", " + report + ", " + families + ", " + rested + ")",
                () -> loom.addCrew(airport, report, families, rested),
                () -> model.addCrew(airport, report, families, rested));
    }

    private void stand() {
        int family = number(0, 2);
        boolean border = coin();
        same("addStand(" + family + ", " + border + ")", () -> loom.addStand(family, border),
                () -> model.addStand(family, border));
    }

    /** Mostly flights that go on from where their aircraft is, out and back. */
    private void flights() {
        int planes = Math.max(1, model.planes.size());
        int teams = Math.max(1, model.teams.size());
        int aircraft = number(0, planes - 1);
        int crew = random.nextInt(9) == 0 ? number(0, teams - 1) : Math.min(aircraft, teams - 1);
        int off = -1;
        int at = 0;
        for (Model.Leg l : model.legs) {
            if (l.plane == aircraft && l.off > off) {
                off = l.off;
                at = l.to;
            }
        }
        boolean isFirst = off < 0;
        if (isFirst && aircraft >= 0 && aircraft < model.planes.size()) {
            at = model.planes.get(aircraft).airport;
        }
        int from = random.nextInt(25) == 0 ? number(0, 3) : at;
        int to = from == 0 ? number(1, 3) : random.nextInt(30) == 0 ? number(0, 3) : 0;
        int next = isFirst ? (isBusy || coin() ? pick(400, 430) : pick(430, 700)) : off + (isBusy ? pick(60, 100) : pick(95, 220));
        int when = random.nextInt(25) == 0 ? number(0, 1439) : next;
        same("addFlight(" + from + ", " + to + ", " + when + ", " + aircraft + ", " + crew + ")",
                () -> loom.addFlight(from, to, when, aircraft, crew),
                () -> model.addFlight(from, to, when, aircraft, crew));
    }

    private void party() {
        int first = flight();
        int second = -1;
        if (coin() && first >= 0 && first < model.legs.size()) {
            for (int k = 0; k < 20 && second < 0; k++) {
                int tried = random.nextInt(model.legs.size());
                int behind = model.legs.get(tried).off - model.legs.get(first).off;
                boolean isBehind = behind > 0 && (k > 12 || behind > 60 && behind < 150);
                if (model.legs.get(tried).from == model.legs.get(first).to && isBehind) {
                    second = tried;
                }
            }
        }
        int other = isWrongAtTimes && random.nextInt(8) == 0 ? number(-1, 9) : second;
        int people = isBusy ? number(1, 50) : number(1, 12);
        int rank = number(0, 2);
        boolean visa = random.nextInt(3) > 0;
        same("addGroup(" + first + ", " + other + ", " + people + ", " + rank + ", " + visa + ")",
                () -> loom.addGroup(first, other, people, rank, visa),
                () -> model.addGroup(first, other, people, rank, visa));
    }

    private void message() {
        char kind = isWrongAtTimes && random.nextInt(20) == 0 ? (char) pick(0, 255) : "hhxf".charAt(random.nextInt(4));
        int flight = flight();
        int number = kind == 'h' ? number(0, 240) : random.nextInt(500) - 100;
        int happened = random.nextInt(4) == 0 ? number(0, 1999) : pick(300, 900);
        int comes = random.nextInt(6) == 0 ? number(0, 1999) : Math.min(1999, happened + pick(0, 200));
        same("tell('" + kind + "', " + flight + ", " + number + ", " + happened + ", " + comes + ")",
                () -> loom.tell(kind, flight, number, happened, comes),
                () -> model.tell(kind, flight, number, happened, comes));
    }

    private void weather() {
        if (coin()) {
            int from = random.nextInt(4) == 0 ? number(0, 1999) : pick(400, 700);
            int to = random.nextInt(4) == 0 ? number(0, 1999) : from + pick(-10, 250);
            same("ice(" + from + ", " + to + ")", () -> loom.ice(from, to), () -> model.ice(from, to));
        } else {
            int pads = number(0, 3);
            same("setPads(" + pads + ")", () -> loom.setPads(pads), () -> model.setPads(pads));
        }
    }

    private void field() {
        if (coin()) {
            int minute = random.nextInt(4) == 0 ? number(0, 1999) : pick(400, 700);
            same("turnRunway(" + minute + ")", () -> loom.turnRunway(minute), () -> model.turnRunway(minute));
        } else {
            int from = number(0, 3);
            int to = number(0, 3);
            int minutes = random.nextInt(3) == 0 ? number(30, 300) : number(30, 120);
            same("fly(" + from + ", " + to + ", " + minutes + ")", () -> loom.fly(from, to, minutes),
                    () -> model.fly(from, to, minutes));
        }
    }

    private int nearOff(int flight) {
        boolean isThere = flight >= 0 && flight < model.legs.size();
        return isThere && random.nextInt(4) > 0 ? Math.min(1999, model.legs.get(flight).off + pick(-30, 60)) : number(0, 1999);
    }

    private void change() {
        int flight = flight();
        int other = flight();
        switch (random.nextInt(8)) {
            case 0: {
                int minute = nearOff(flight);
                same("slot(" + flight + ", " + minute + ")", () -> loom.slot(flight, minute), () -> model.slot(flight, minute));
                break;
            }
            case 1:
                same("trade(" + flight + ", " + other + ")", () -> loom.trade(flight, other), () -> model.trade(flight, other));
                break;
            case 2: {
                int minutes = number(0, 240);
                same("hold(" + flight + ", " + minutes + ")", () -> loom.hold(flight, minutes), () -> model.hold(flight, minutes));
                break;
            }
            case 3: case 4: {
                int minutes = number(0, 60);
                same("waitFor(" + flight + ", " + minutes + ")", () -> loom.waitFor(flight, minutes),
                        () -> model.waitFor(flight, minutes));
                break;
            }
            case 5:
                same("swap(" + flight + ", " + other + ")", () -> loom.swap(flight, other), () -> model.swap(flight, other));
                break;
            case 6:
                if (random.nextInt(3) == 0) {
                    same("cancel(" + flight + ")", () -> loom.cancel(flight), () -> model.cancel(flight));
                }
                break;
            default: {
                int aircraft = number(0, 4);
                int airport = number(0, 3);
                if (random.nextInt(3) == 0) {
                    same("fault(" + aircraft + ", " + airport + ")", () -> loom.fault(aircraft, airport),
                            () -> model.fault(aircraft, airport));
                }
            }
        }
    }

    private void plans() {
        int bits = 0;
        int most = Math.max(1, model.legs.size());
        for (int k = 0; k < 2; k++) {
            bits |= 1 << random.nextInt(most);
        }
        if (random.nextInt(8) == 0) {
            bits |= 1 << random.nextInt(most);
        }
        int flights = isWrongAtTimes && random.nextInt(4) == 0 ? number(0, 1023) : bits;
        if (coin()) {
            same("recover(" + flights + ")", () -> loom.recover(flights), () -> model.recover(flights));
        } else {
            same("isBest(" + flights + ")", () -> loom.isBest(flights), () -> model.isBest(flights));
        }
    }

    private static String wholeLog(int length, Function<Integer, Character> sign) {
        StringBuilder text = new StringBuilder();
        for (int i = 0; i < length; i++) {
            text.append(sign.apply(i));
        }
        return text.toString();
    }

    private void log() {
        String log = model.new Run().text();
        if (left > log.length()) {
            left -= log.length();
            same("log", () -> wholeLog(loom.logLength(), i -> loom.logAt(i)), () -> log);
        }
        int index = number(0, Math.max(0, log.length() - 1));
        same("logAt(" + index + ")", () -> loom.logAt(index), () -> model.logAt(index));
    }

    private void sums() {
        same("harm()", () -> loom.harm(), () -> model.harm());
        same("paid()", () -> loom.paid(), () -> model.paid());
        same("lateBags()", () -> loom.lateBags(), () -> model.lateBags());
        same("missed()", () -> loom.missed(), () -> model.missed());
        same("onTimeShare()", () -> loom.onTimeShare(), () -> model.onTimeShare());
        same("meanLateness()", () -> loom.meanLateness(), () -> model.meanLateness());
        same("isSound()", () -> loom.isSound(), () -> model.isSound());
    }

    private void askFlights() {
        for (int f = -1; f <= model.legs.size(); f++) {
            int flight = f;
            same("state(" + f + ")", () -> loom.state(flight), () -> model.state(flight));
            same("cause(" + f + ")", () -> loom.cause(flight), () -> model.cause(flight));
            same("root(" + f + ")", () -> loom.root(flight), () -> model.root(flight));
            same("standOf(" + f + ")", () -> loom.standOf(flight), () -> model.standOf(flight));
            char event = isWrongAtTimes ? (char) pick(60, 90) : "DPTLE".charAt(random.nextInt(5));
            same("minuteOf(" + f + ", " + event + ")", () -> loom.minuteOf(flight, event),
                    () -> model.minuteOf(flight, event));
        }
    }

    private void askGroups() {
        for (int g = -1; g <= model.parties.size(); g++) {
            int group = g;
            same("lateness(" + g + ")", () -> loom.lateness(group), () -> model.lateness(group));
            same("lastOf(" + g + ")", () -> loom.lastOf(group), () -> model.lastOf(group));
            same("isStranded(" + g + ")", () -> loom.isStranded(group), () -> model.isStranded(group));
        }
    }

    /** Flights that come home from everywhere, and soon behind them the ones that their groups go on with. */
    private void hub() {
        for (int k = 0; k < 5; k++) {
            int airport = k < 2 ? pick(1, 3) : 0;
            int seats = pick(20, 80);
            int family = pick(0, 2);
            same("addAircraft", () -> loom.addAircraft(family, airport, 40, seats, 900, 9),
                    () -> model.addAircraft(family, airport, 40, seats, 900, 9));
            same("addCrew", () -> loom.addCrew(airport, 360, 7, true), () -> model.addCrew(airport, 360, 7, true));
            boolean border = k < 3;
            same("addStand", () -> loom.addStand(2, border), () -> model.addStand(2, border));
        }
        for (int k = 0; k < 9; k++) {
            int plane = k % 5;
            int out = pick(1, 3);
            int from = k < 2 ? model.planes.get(plane).airport : 0;
            int to = k < 2 ? 0 : out;
            int off = k < 2 ? pick(405, 425) : k < 5 ? pick(505, 580) : pick(580, 700);
            if (k < 7) {
                same("addFlight(" + from + ", " + to + ", " + off + ", " + plane + ")",
                        () -> loom.addFlight(from, to, off, plane, plane), () -> model.addFlight(from, to, off, plane, plane));
            }
        }
        for (int f = 2; f < 7; f++) {
            int flight = f;
            int minutes = pick(0, 60);
            same("waitFor(" + f + ", " + minutes + ")", () -> loom.waitFor(flight, minutes),
                    () -> model.waitFor(flight, minutes));
        }
        for (int k = 0; k < 8; k++) {
            int second = pick(2, 6);
            int people = pick(1, 20);
            int rank = pick(0, 2);
            int first = k % 2;
            same("addGroup(" + first + ", " + second + ", " + people + ", " + rank + ", true)",
                    () -> loom.addGroup(first, second, people, rank, true),
                    () -> model.addGroup(first, second, people, rank, true));
        }
    }

    private void run() {
        if (isHub) {
            hub();
        } else {
            for (int k = pick(1, 5); k > 0; k--) aircraft();
            for (int k = Math.max(model.planes.size(), pick(1, 5)); k > 0; k--) crew();
            for (int k = pick(0, 6); k > 0; k--) stand();
            for (int k = pick(3, 12); k > 0; k--) flights();
        }
        for (int k = pick(1, 14); k > 0; k--) party();
        for (int k = pick(0, 3); k > 0; k--) message();
        for (int k = pick(0, 3); k > 0; k--) weather();
        for (int k = pick(0, 3); k > 0; k--) field();
        for (int k = pick(0, 10); k > 0; k--) change();
        sums();
        log();
        if (coin()) {
            askFlights();
            askGroups();
        }
        for (int k = 0; k < 3; k++) {
            switch (random.nextInt(7)) {
                case 0: message(); break;
                case 1: weather(); break;
                case 2: field(); break;
                case 3: party(); break;
                case 4: plans(); break;
                default: change();
            }
            change();
            sums();
        }
        askFlights();
        askGroups();
        log();
    }

    public static void main(String[] args) {
        int first = args.length > 0 ? Integer.parseInt(args[0]) : 1;
        int count = args.length > 1 ? Integer.parseInt(args[1]) : 300;
        for (int seed = first; seed < first + count && wrong == 0; seed++) {
            seen.setLength(0);
            left = 512;
            new ModelTest(seed).run();
        }
        System.out.println("ModelTest: " + (calls - wrong) + " calls as in the model, " + wrong + " not");
        if (wrong != 0) {
            System.exit(1);
        }
    }
}
