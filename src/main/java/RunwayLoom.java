import java.util.Arrays;
import java.util.NoSuchElementException;

/** An airline and its airport through a day that goes wrong. */
public final class RunwayLoom {
    private static final int NONE = -1;
    private static final int HOME = 0;
    private static final int AIRPORTS = 4;
    private static final int MOST_AIRCRAFT = 5;
    private static final int MOST_CREWS = 5;
    private static final int MOST_STANDS = 6;
    private static final int MOST_TURNS = 3;
    private static final int MOST_FLIGHTS = 10;
    private static final int MOST_GROUPS = 12;
    private static final int MOST_MESSAGES = 10;
    private static final int MOST_CHOSEN = 3;
    private static final int MINUTES = 2000;
    private static final int DAY_MINUTES = 1440;
    private static final int LONGEST_HOLD = 240;
    private static final int CHOICES = 4;
    private static final int RANKS = 3;
    private static final char WAIT = 'W';
    private static final char SHUT = 'D';

    private final Plan plan;
    private final Day day;
    private final Day again;
    private final int[] chosen = new int[MOST_CHOSEN];
    private final int[] savedHolds = new int[MOST_CHOSEN];
    private final boolean[] savedCancels = new boolean[MOST_CHOSEN];
    private int chosenCount;
    private boolean isRun;

    public RunwayLoom() {
        Plan empty = new Plan();
        plan = empty;
        day = new Day(empty);
        again = new Day(empty);
        chosenCount = 0;
        isRun = false;
    }

    public int fly(int from, int to, int minutes) throws IndexOutOfBoundsException, IllegalArgumentException {
        requireAirport(from);
        requireAirport(to);
        require(from != to && isWithin(minutes, 30, 300));
        int before = plan.flying[from * AIRPORTS + to];
        plan.flying[from * AIRPORTS + to] = minutes;
        plan.flying[to * AIRPORTS + from] = minutes;
        isRun = false;
        return before;
    }

    public int addAircraft(int family, int airport, int turn, int seats, int minutes, int landings)
            throws IndexOutOfBoundsException, IllegalArgumentException, IllegalStateException {
        requireAirport(airport);
        require(isWithin(family, 0, 2) && isWithin(turn, 20, 90) && isWithin(seats, 1, 300));
        require(isWithin(minutes, 0, 2000) && isWithin(landings, 0, 20));
        requireRoom(plan.aircraftCount, MOST_AIRCRAFT);
        Aircraft added = plan.aircraft[plan.aircraftCount];
        added.family = family;
        added.airport = airport;
        added.turn = turn;
        added.seats = seats;
        added.minutes = minutes;
        added.landings = landings;
        isRun = false;
        return plan.aircraftCount++;
    }

    public boolean fault(int aircraft, int airport) throws IndexOutOfBoundsException {
        requireIndex(aircraft, plan.aircraftCount);
        requireAirport(airport);
        Aircraft faulty = plan.aircraft[aircraft];
        boolean couldFly = (faulty.faults >> airport & 1) == 0;
        faulty.faults |= 1 << airport;
        isRun = false;
        return couldFly;
    }

    public int addCrew(int airport, int report, int families, boolean isRested)
            throws IndexOutOfBoundsException, IllegalArgumentException, IllegalStateException {
        requireAirport(airport);
        require(isWithin(report, 0, DAY_MINUTES - 1) && isWithin(families, 1, 7));
        requireRoom(plan.crewCount, MOST_CREWS);
        Crew added = plan.crews[plan.crewCount];
        added.airport = airport;
        added.report = report;
        added.families = families;
        added.isRested = isRested;
        isRun = false;
        return plan.crewCount++;
    }

    public int addStand(int family, boolean hasBorder) throws IllegalArgumentException, IllegalStateException {
        require(isWithin(family, 0, 2));
        requireRoom(plan.standCount, MOST_STANDS);
        plan.standFamilies[plan.standCount] = family;
        plan.standBorders[plan.standCount] = hasBorder;
        isRun = false;
        return plan.standCount++;
    }

    public int turnRunway(int minute) throws IllegalArgumentException, IllegalStateException {
        require(isWithin(minute, 0, MINUTES - 1));
        requireRoom(plan.turnCount, MOST_TURNS);
        plan.turns[plan.turnCount] = minute;
        plan.turnCount++;
        isRun = false;
        return plan.turnCount;
    }

    public int ice(int from, int to) throws IllegalArgumentException {
        require(isWithin(from, 0, MINUTES - 1) && to < MINUTES);
        plan.iceFrom = from;
        plan.iceTo = to;
        isRun = false;
        return to < from ? 0 : to - from + 1;
    }

    public int setPads(int pads) throws IllegalArgumentException {
        require(isWithin(pads, 0, 3));
        int before = plan.pads;
        plan.pads = pads;
        isRun = false;
        return before;
    }

    public int addFlight(int from, int to, int off, int aircraft, int crew)
            throws IndexOutOfBoundsException, IllegalArgumentException, IllegalStateException {
        requireAirport(from);
        requireAirport(to);
        requireIndex(aircraft, plan.aircraftCount);
        requireIndex(crew, plan.crewCount);
        require((from == HOME) != (to == HOME) && isWithin(off, 0, DAY_MINUTES - 1));
        requireRoom(plan.flightCount, MOST_FLIGHTS);
        Flight added = plan.flights[plan.flightCount];
        added.from = from;
        added.to = to;
        added.isBeyondBorder = from > 1 || to > 1;
        added.off = off;
        added.aircraft = aircraft;
        added.crew = crew;
        isRun = false;
        return plan.flightCount++;
    }

    public int slot(int flight, int minute)
            throws IndexOutOfBoundsException, UnsupportedOperationException, IllegalArgumentException {
        requireFlight(flight);
        Flight told = plan.flights[flight];
        requireSupported(told.from == HOME);
        require(isWithin(minute, 0, MINUTES - 1));
        int before = told.slot;
        told.slot = minute;
        isRun = false;
        return before;
    }

    public int trade(int flight, int other) throws IndexOutOfBoundsException, UnsupportedOperationException {
        requireFlight(flight);
        requireFlight(other);
        Flight one = plan.flights[flight];
        Flight two = plan.flights[other];
        requireSupported(one.slot != NONE && two.slot != NONE);
        int before = one.slot;
        one.slot = two.slot;
        two.slot = before;
        isRun = false;
        return one.slot;
    }

    public int hold(int flight, int minutes) throws IndexOutOfBoundsException, IllegalArgumentException {
        requireFlight(flight);
        require(isWithin(minutes, 0, LONGEST_HOLD));
        int before = plan.flights[flight].hold;
        plan.flights[flight].hold = minutes;
        isRun = false;
        return before;
    }

    public int waitFor(int flight, int minutes) throws IndexOutOfBoundsException, IllegalArgumentException {
        requireFlight(flight);
        require(isWithin(minutes, 0, 60));
        int before = plan.flights[flight].wait;
        plan.flights[flight].wait = minutes;
        isRun = false;
        return before;
    }

    public int swap(int flight, int other) throws IndexOutOfBoundsException, UnsupportedOperationException {
        requireFlight(flight);
        requireFlight(other);
        int one = plan.flights[flight].aircraft;
        int two = plan.flights[other].aircraft;
        requireSupported(one != two && plan.aircraft[one].family == plan.aircraft[two].family);
        for (int i = 0; i < plan.flightCount; i++) {
            Flight each = plan.flights[i];
            if (each.aircraft == one && !plan.isAhead(i, flight)) {
                each.aircraft = two;
            } else if (each.aircraft == two && !plan.isAhead(i, other)) {
                each.aircraft = one;
            }
        }
        isRun = false;
        return plan.flights[flight].aircraft;
    }

    public boolean cancel(int flight) throws IndexOutOfBoundsException {
        requireFlight(flight);
        boolean wasNot = !plan.flights[flight].isCancelled;
        plan.flights[flight].isCancelled = true;
        isRun = false;
        return wasNot;
    }

    public int addGroup(int first, int second, int people, int rank, boolean hasVisa)
            throws IndexOutOfBoundsException, IllegalArgumentException, UnsupportedOperationException,
            IllegalStateException {
        requireFlight(first);
        if (second != NONE) {
            requireFlight(second);
        }
        require(isWithin(people, 1, 50) && isWithin(rank, 0, RANKS - 1));
        requireSupported(second == NONE || plan.flights[second].from == plan.flights[first].to);
        requireRoom(plan.groupCount, MOST_GROUPS);
        Group added = plan.groups[plan.groupCount];
        added.first = first;
        added.second = second;
        added.people = people;
        added.rank = rank;
        added.hasVisa = hasVisa;
        isRun = false;
        return plan.groupCount++;
    }

    public int tell(char kind, int flight, int number, int happened, int comes)
            throws IndexOutOfBoundsException, IllegalArgumentException, IllegalStateException {
        requireFlight(flight);
        require(kind == 'h' || kind == 'x' || kind == 'f');
        require(kind != 'h' || isWithin(number, 0, LONGEST_HOLD));
        require(isWithin(happened, 0, MINUTES - 1) && isWithin(comes, happened, MINUTES - 1));
        requireRoom(plan.messageCount, MOST_MESSAGES);
        Message added = plan.messages[plan.messageCount];
        added.kind = kind;
        added.flight = flight;
        added.number = number;
        added.happened = happened;
        added.comes = comes;
        plan.messageCount++;
        isRun = false;
        return plan.messageCount;
    }

    public char state(int flight) throws IndexOutOfBoundsException {
        requireFlight(flight);
        return today().courses[flight].state;
    }

    public int minuteOf(int flight, char event)
            throws IndexOutOfBoundsException, IllegalArgumentException, NoSuchElementException {
        requireFlight(flight);
        Course course = today().courses[flight];
        int minute;
        switch (event) {
            case 'D': minute = course.shut; break;
            case 'P': minute = course.onPad; break;
            case 'T': minute = course.takenOff; break;
            case 'L': minute = course.landed; break;
            case 'E': minute = course.ended; break;
            default: throw new IllegalArgumentException("no such event");
        }
        requireFound(minute != NONE);
        return minute;
    }

    public int standOf(int flight) throws IndexOutOfBoundsException, NoSuchElementException {
        requireFlight(flight);
        Course course = today().courses[flight];
        requireFound(course.stand != NONE);
        return course.stand;
    }

    public char cause(int flight) throws IndexOutOfBoundsException, NoSuchElementException {
        requireFlight(flight);
        Course course = today().courses[flight];
        requireFound(course.hasCause());
        return course.letterOfCause();
    }

    public int root(int flight) throws IndexOutOfBoundsException, NoSuchElementException {
        requireFlight(flight);
        Course course = today().courses[flight];
        requireFound(course.hasCause());
        return today().rootOf(course).number;
    }

    public int lateness(int group) throws IndexOutOfBoundsException {
        requireIndex(group, plan.groupCount);
        return today().minutesLate(group);
    }

    public int lastOf(int group) throws IndexOutOfBoundsException, NoSuchElementException {
        requireIndex(group, plan.groupCount);
        int taken = today().journeys[group].taken;
        requireFound(taken != NONE);
        return taken;
    }

    public boolean isStranded(int group) throws IndexOutOfBoundsException {
        requireIndex(group, plan.groupCount);
        return today().journeys[group].isStranded;
    }

    public int lateBags() {
        return today().lateBags;
    }

    public int missed() {
        return today().missed;
    }

    public int harm() {
        return today().sumOfHarm();
    }

    public int paid() {
        return today().sumOfPay();
    }

    public int logLength() {
        return today().log.length;
    }

    public char logAt(int index) throws IndexOutOfBoundsException {
        Log log = today().log;
        requireIndex(index, log.length);
        return log.signs[index];
    }

    public int recover(int flights) throws IllegalArgumentException, UnsupportedOperationException {
        choose(flights);
        choosePlan(leastPlan());
        return today().sumOfHarm();
    }

    public boolean isBest(int flights) throws IllegalArgumentException, UnsupportedOperationException {
        choose(flights);
        int least = leastPlan();
        choosePlan(0);
        return least == 0;
    }

    public float onTimeShare() throws ArithmeticException {
        requireSome(plan.flightCount);
        Day ran = today();
        int onTime = 0;
        for (int i = 0; i < plan.flightCount; i++) {
            Course course = ran.courses[i];
            if (course.hasCause() && course.letterOfCause() == '-') {
                onTime++;
            }
        }
        return (float) onTime / (float) plan.flightCount;
    }

    public double meanLateness() throws ArithmeticException {
        requireSome(plan.groupCount);
        int people = 0;
        for (int i = 0; i < plan.groupCount; i++) {
            people += plan.groups[i].people;
        }
        requireSome(people);
        return (double) today().sumOfLateness() / (double) people;
    }

    public boolean isSound() {
        Day ran = today();
        again.run();
        return ran.isLawful() && ran.log.isSame(again.log);
    }

    private static boolean isWithin(int number, int least, int most) {
        return number >= least && number <= most;
    }

    private static void requireIndex(int index, int count) {
        if (index < 0 || index >= count) {
            throw new IndexOutOfBoundsException("no such number");
        }
    }

    private static void requireAirport(int airport) {
        requireIndex(airport, AIRPORTS);
    }

    private void requireFlight(int flight) {
        requireIndex(flight, plan.flightCount);
    }

    private static void require(boolean isAllowed) {
        if (!isAllowed) {
            throw new IllegalArgumentException("not allowed");
        }
    }

    private static void requireSupported(boolean isSupported) {
        if (!isSupported) {
            throw new UnsupportedOperationException("not for these");
        }
    }

    private static void requireRoom(int count, int most) {
        if (count >= most) {
            throw new IllegalStateException("no more of them");
        }
    }

    private static void requireFound(boolean isFound) {
        if (!isFound) {
            throw new NoSuchElementException("it did not come");
        }
    }

    private static void requireSome(int count) {
        if (count < 1) {
            throw new ArithmeticException("there are none");
        }
    }

    /** The day as it is with all that was told; it is run once for each change. */
    private Day today() {
        if (!isRun) {
            day.run();
            isRun = true;
        }
        return day;
    }

    /** Takes down the flights whose plan may change, lowest first, and their plan so far. */
    private void choose(int flights) {
        require(flights >= 0 && flights >> plan.flightCount == 0);
        requireSupported(isWithin(Integer.bitCount(flights), 1, MOST_CHOSEN));
        chosenCount = 0;
        for (int i = 0; i < plan.flightCount; i++) {
            if ((flights >> i & 1) == 1 && chosenCount < MOST_CHOSEN) {
                chosen[chosenCount] = i;
                savedHolds[chosenCount] = plan.flights[i].hold;
                savedCancels[chosenCount] = plan.flights[i].isCancelled;
                chosenCount++;
            }
        }
    }

    /** Gives the chosen flights the plan of this number: its last two bits are for the highest of them. */
    private void choosePlan(int number) {
        int rest = number;
        for (int i = chosenCount - 1; i >= 0; i--) {
            int choice = rest % CHOICES;
            rest /= CHOICES;
            Flight flight = plan.flights[chosen[i]];
            boolean isDropped = choice == CHOICES - 1;
            flight.isCancelled = savedCancels[i] || isDropped;
            flight.hold = isDropped ? savedHolds[i] : Math.min(LONGEST_HOLD, savedHolds[i] + 20 * choice);
        }
        isRun = false;
    }

    private int leastPlan() {
        int plans = 1 << 2 * chosenCount;
        int least = 0;
        int leastHarm = 0;
        for (int i = 0; i < plans; i++) {
            choosePlan(i);
            day.run();
            int itsHarm = day.sumOfHarm();
            if (i == 0 || itsHarm < leastHarm) {
                leastHarm = itsHarm;
                least = i;
            }
        }
        return least;
    }

    static final class Aircraft {
        int family;
        int airport;
        int turn;
        int seats;
        int minutes;
        int landings;
        int faults;
    }

    static final class Crew {
        int airport;
        int report;
        int families;
        boolean isRested;

        int limit(int landings) {
            int minutes = report >= 360 && report <= 839 ? 660 : 600;
            if (!isRested) {
                minutes -= 60;
            }
            return landings > 2 ? minutes - 30 * (landings - 2) : minutes;
        }
    }

    static final class Flight {
        int from;
        int to;
        int off;
        int aircraft;
        int crew;
        int hold;
        int wait;
        int slot = NONE;
        boolean isBeyondBorder;
        boolean isCancelled;
    }

    static final class Group {
        int first;
        int second;
        int people;
        int rank;
        boolean hasVisa;

        int last() {
            return second == NONE ? first : second;
        }
    }

    static final class Message {
        char kind;
        int flight;
        int number;
        int happened;
        int comes;
    }

    /** All that was told. Its rows are made at once, and used as they are added. */
    static final class Plan {
        final int[] flying = new int[AIRPORTS * AIRPORTS];
        final Aircraft[] aircraft = new Aircraft[MOST_AIRCRAFT];
        final Crew[] crews = new Crew[MOST_CREWS];
        final Flight[] flights = new Flight[MOST_FLIGHTS];
        final Group[] groups = new Group[MOST_GROUPS];
        final Message[] messages = new Message[MOST_MESSAGES];
        final int[] standFamilies = new int[MOST_STANDS];
        final boolean[] standBorders = new boolean[MOST_STANDS];
        final int[] turns = new int[MOST_TURNS];
        int aircraftCount;
        int crewCount;
        int flightCount;
        int groupCount;
        int messageCount;
        int standCount;
        int turnCount;
        int iceFrom = 0;
        int iceTo = NONE;
        int pads = 1;

        Plan() {
            Arrays.fill(flying, 60);
            for (int i = 0; i < MOST_AIRCRAFT; i++) {
                aircraft[i] = new Aircraft();
            }
            for (int i = 0; i < MOST_CREWS; i++) {
                crews[i] = new Crew();
            }
            for (int i = 0; i < MOST_FLIGHTS; i++) {
                flights[i] = new Flight();
            }
            for (int i = 0; i < MOST_GROUPS; i++) {
                groups[i] = new Group();
            }
            for (int i = 0; i < MOST_MESSAGES; i++) {
                messages[i] = new Message();
            }
        }

        int flyingTime(Flight flight) {
            return flying[flight.from * AIRPORTS + flight.to];
        }

        /** Whether a flight is ahead of another one in the order of an aircraft or a crew. */
        boolean isAhead(int number, int other) {
            int off = flights[number].off;
            int otherOff = flights[other].off;
            return off < otherOff || off == otherOff && number < other;
        }

        boolean hasIce(int minute) {
            return minute >= iceFrom && minute <= iceTo;
        }

        boolean isClosed(int minute) {
            for (int i = 0; i < turnCount; i++) {
                if (minute >= turns[i] && minute < turns[i] + 10) {
                    return true;
                }
            }
            return false;
        }
    }

    /** An aircraft or a crew through the day. */
    static final class Carrier {
        int airport;
        int lastFlight;
        int landings;
        int minutes;
        int faults;

        void begin(int where) {
            airport = where;
            lastFlight = NONE;
            landings = 0;
            minutes = 0;
            faults = 0;
        }
    }

    /** A flight through the day. */
    static final class Course {
        final int number;
        final Flight flight;
        char state;
        int due;
        /** The minute from which on its next step is looked at: due, ready, there, or on its way to a stand. */
        int next;
        int slot;
        char letter;
        int shut;
        int onPad;
        int takenOff;
        int landed;
        int ended;
        int stand;
        int bags;
        int iced;
        int slotted;
        int queued;
        char waitedKind;
        int waitedFlight;

        Course(int itsNumber, Flight itsFlight) {
            number = itsNumber;
            flight = itsFlight;
        }

        void begin() {
            state = 's';
            due = flight.off + flight.hold;
            next = due;
            slot = flight.slot;
            letter = '-';
            shut = NONE;
            onPad = NONE;
            takenOff = NONE;
            landed = NONE;
            ended = NONE;
            stand = NONE;
            bags = 0;
            iced = 0;
            slotted = 0;
            queued = 0;
            waitedKind = 'h';
            waitedFlight = NONE;
        }

        boolean isOver() {
            return state == 'e' || state == 'x';
        }

        boolean isOnPad(int minute) {
            return onPad != NONE && minute < onPad + 10;
        }

        boolean isIcedOff(int minute) {
            return onPad != NONE && minute - (onPad + 10) <= 20;
        }

        boolean hasCause() {
            return state == 'x' || takenOff != NONE;
        }

        char letterOfCause() {
            if (state == 'x') {
                return letter;
            }
            if (takenOff - 5 - flight.off <= 5) {
                return '-';
            }
            int most = Math.max(Math.max(shut - flight.off, 10 * bags), Math.max(iced, Math.max(slotted, queued)));
            if (shut - flight.off == most) {
                return waitedKind;
            }
            if (10 * bags == most) {
                return 'b';
            }
            if (iced == most) {
                return 'i';
            }
            return slotted == most ? 's' : 'q';
        }
    }

    /** A group through the day. */
    static final class Journey {
        int next;
        int taken;
        boolean isLast;
        boolean isLeft;
        boolean isStranded;

        void begin(Group group) {
            next = group.first;
            taken = NONE;
            isLast = group.second == NONE;
            isLeft = false;
            isStranded = false;
        }

        boolean isFor(Course course) {
            return next == course.number && !isStranded;
        }
    }

    static final class Log {
        final char[] signs = new char[10000];
        int length;

        void note(int minute, char letter, int number) {
            for (int power = 1000; power > 0; power /= 10) {
                if (minute >= power || power == 1) {
                    put((char) ('0' + minute / power % 10));
                }
            }
            put(letter);
            put((char) ('0' + number));
            put(';');
        }

        void put(char sign) {
            if (length < signs.length) {
                signs[length] = sign;
                length++;
            }
        }

        boolean isSame(Log other) {
            if (length != other.length) {
                return false;
            }
            for (int i = 0; i < length; i++) {
                if (signs[i] != other.signs[i]) {
                    return false;
                }
            }
            return true;
        }
    }

    /** The day: what was told, run minute by minute. */
    static final class Day {
        final Plan plan;
        final Course[] courses = new Course[MOST_FLIGHTS];
        final Course[] line = new Course[MOST_FLIGHTS];
        final Carrier[] planes = new Carrier[MOST_AIRCRAFT];
        final Carrier[] crews = new Carrier[MOST_CREWS];
        final Journey[] journeys = new Journey[MOST_GROUPS];
        final int[] holders = new int[MOST_STANDS];
        final boolean[] isDone = new boolean[MOST_MESSAGES];
        final Log log = new Log();
        int lineLength;
        int minute;
        int runwayMinute;
        int runwayFamily;
        int missed;
        int lateBags;
        int latestPresent;
        int latestBy;
        boolean isCrewed;

        Day(Plan told) {
            plan = told;
            for (int i = 0; i < MOST_FLIGHTS; i++) {
                courses[i] = new Course(i, told.flights[i]);
                line[i] = courses[i];
            }
            for (int i = 0; i < MOST_AIRCRAFT; i++) {
                planes[i] = new Carrier();
            }
            for (int i = 0; i < MOST_CREWS; i++) {
                crews[i] = new Carrier();
            }
            for (int i = 0; i < MOST_GROUPS; i++) {
                journeys[i] = new Journey();
            }
        }

        void run() {
            startAnew();
            dropToldAhead();
            int wake = 0;
            for (int now = 0; now < MINUTES; now++) {
                if (now == wake) {
                    minute = now;
                    readMessages();
                    land();
                    park();
                    shutDoors();
                    goOnPads();
                    takeOff();
                    bookAnew();
                    wake = nextMinute();
                }
            }
        }

        private void startAnew() {
            log.length = 0;
            minute = 0;
            runwayMinute = NONE;
            runwayFamily = 0;
            missed = 0;
            lateBags = 0;
            isCrewed = true;
            for (int i = 0; i < plan.flightCount; i++) {
                courses[i].begin();
            }
            for (int i = 0; i < plan.aircraftCount; i++) {
                planes[i].begin(plan.aircraft[i].airport);
                planes[i].minutes = plan.aircraft[i].minutes;
                planes[i].landings = plan.aircraft[i].landings;
                planes[i].faults = plan.aircraft[i].faults;
            }
            for (int i = 0; i < plan.crewCount; i++) {
                crews[i].begin(plan.crews[i].airport);
            }
            for (int i = 0; i < plan.groupCount; i++) {
                journeys[i].begin(plan.groups[i]);
            }
            for (int i = 0; i < plan.messageCount; i++) {
                isDone[i] = false;
            }
            Arrays.fill(holders, NONE);
        }

        private void dropToldAhead() {
            for (int i = 0; i < plan.flightCount; i++) {
                if (plan.flights[i].isCancelled) {
                    drop(courses[i], 'x');
                }
            }
        }

        /** The next minute in which anything may come; the ones between would change nothing. */
        private int nextMinute() {
            int wake = MINUTES;
            for (int i = 0; i < plan.flightCount; i++) {
                if (!courses[i].isOver()) {
                    wake = Math.min(wake, Math.max(courses[i].next, minute + 1));
                }
            }
            for (int i = 0; i < plan.messageCount; i++) {
                if (plan.messages[i].comes > minute) {
                    wake = Math.min(wake, plan.messages[i].comes);
                }
            }
            return wake;
        }

        /** Lines up the flights of a state whose next step is looked at, by its minute, then by numbers. */
        private void lineUp(char state) {
            lineLength = 0;
            for (int i = 0; i < plan.flightCount; i++) {
                Course course = courses[i];
                if (course.state == state && course.next <= minute) {
                    int at = lineLength;
                    while (at > 0 && line[at - 1].next > course.next) {
                        line[at] = line[at - 1];
                        at--;
                    }
                    line[at] = course;
                    lineLength++;
                }
            }
        }

        private void readMessages() {
            for (int i = 0; i < plan.messageCount; i++) {
                Message message = plan.messages[i];
                if (message.comes == minute && !isOutdated(message)) {
                    isDone[i] = true;
                    Course course = courses[message.flight];
                    if (message.kind != 'x') {
                        heed(message, course);
                    } else if (course.state == 's') {
                        drop(course, 'x');
                    }
                }
            }
        }

        private boolean isOutdated(Message message) {
            for (int i = 0; i < plan.messageCount; i++) {
                Message other = plan.messages[i];
                if (isDone[i] && other.kind == message.kind && other.flight == message.flight
                        && other.happened > message.happened) {
                    return true;
                }
            }
            return false;
        }

        private void heed(Message message, Course course) {
            if (message.kind == 'f') {
                planes[course.flight.aircraft].faults |= 1 << course.flight.to;
            } else {
                course.due = course.flight.off + message.number;
                if (course.state == 's') {
                    course.next = course.due;
                }
            }
        }

        private void drop(Course course, char letter) {
            course.state = 'x';
            course.letter = letter;
            log.note(minute, letter, course.number);
            for (int i = 0; i < plan.groupCount; i++) {
                if (journeys[i].isFor(course)) {
                    journeys[i].isLeft = true;
                }
            }
        }

        private void land() {
            lineUp('a');
            for (int i = 0; i < lineLength; i++) {
                Course course = line[i];
                if (course.flight.to != HOME) {
                    end(course);
                } else if (isRunwayFree(course)) {
                    useRunway(course);
                    course.state = 'w';
                    course.landed = minute;
                    course.next = minute + 5;
                    log.note(minute, 'L', course.number);
                }
            }
        }

        private int familyOf(Course course) {
            return plan.aircraft[course.flight.aircraft].family;
        }

        private boolean isRunwayFree(Course course) {
            if (plan.isClosed(minute)) {
                return false;
            }
            return runwayMinute == NONE || minute >= runwayMinute + gap(runwayFamily, familyOf(course));
        }

        private static int gap(int ahead, int behind) {
            return 2 + Math.max(0, ahead - behind);
        }

        private void useRunway(Course course) {
            runwayMinute = minute;
            runwayFamily = familyOf(course);
        }

        private void end(Course course) {
            course.state = 'e';
            course.ended = minute;
            arrive(planes[course.flight.aircraft], course);
            arrive(crews[course.flight.crew], course);
            log.note(minute, 'E', course.number);
        }

        private static void arrive(Carrier carrier, Course course) {
            carrier.airport = course.flight.to;
            carrier.lastFlight = course.number;
        }

        private void park() {
            lineUp('w');
            for (int i = 0; i < lineLength; i++) {
                Course course = line[i];
                int stand = freeStand(course);
                if (stand != NONE) {
                    course.stand = stand;
                    holders[stand] = course.flight.aircraft;
                    end(course);
                } else if (minute >= course.landed + 60) {
                    end(course);
                }
            }
        }

        private int freeStand(Course course) {
            for (int i = 0; i < plan.standCount; i++) {
                if (holders[i] == NONE && plan.standFamilies[i] >= familyOf(course)
                        && (plan.standBorders[i] || !course.flight.isBeyondBorder)) {
                    return i;
                }
            }
            return NONE;
        }

        private void shutDoors() {
            lineUp('s');
            for (int i = 0; i < lineLength; i++) {
                char answer = answerAtDoors(line[i]);
                if (answer == SHUT) {
                    closeDoors(line[i]);
                } else if (answer != WAIT) {
                    drop(line[i], answer);
                }
            }
        }

        /** WAIT, SHUT, or the letter for which the flight is cancelled. */
        private char answerAtDoors(Course course) {
            Flight flight = course.flight;
            if (minute >= flight.off + 300) {
                return 'l';
            }
            if (isOpenAhead(course)) {
                return WAIT;
            }
            if (planes[flight.aircraft].airport != flight.from || crews[flight.crew].airport != flight.from) {
                return 'o';
            }
            if (minute < earliest(course) || isGroupAwaited(course)) {
                return WAIT;
            }
            return lawAtDoors(course);
        }

        private boolean isOpenAhead(Course course) {
            for (int i = 0; i < plan.flightCount; i++) {
                Flight other = plan.flights[i];
                boolean isShared = other.aircraft == course.flight.aircraft || other.crew == course.flight.crew;
                if (isShared && plan.isAhead(i, course.number) && !courses[i].isOver()) {
                    return true;
                }
            }
            return false;
        }

        /** The minute in which an aircraft or a crew has ended its last flight and a pause, 0 without one. */
        private int rested(Carrier carrier, int pause) {
            return carrier.lastFlight == NONE ? 0 : courses[carrier.lastFlight].ended + pause;
        }

        private int earliest(Course course) {
            Flight flight = course.flight;
            int plane = rested(planes[flight.aircraft], plan.aircraft[flight.aircraft].turn);
            int crew = rested(crews[flight.crew], 15);
            return Math.max(plan.crews[flight.crew].report + 45, Math.max(plane, crew));
        }

        private boolean isGroupAwaited(Course course) {
            if (minute >= course.due + course.flight.wait) {
                return false;
            }
            for (int i = 0; i < plan.groupCount; i++) {
                if (journeys[i].isFor(course) && since(journeys[i], course, 30, 45) > minute) {
                    return true;
                }
            }
            return false;
        }

        /** From when on a group, or its bag, is there for a flight, which takes longer across the border. */
        private int since(Journey journey, Course course, int near, int far) {
            if (journey.taken == NONE) {
                return 0;
            }
            Course before = courses[journey.taken];
            if (before.ended == NONE) {
                return MINUTES;
            }
            boolean isFar = before.flight.isBeyondBorder || course.flight.isBeyondBorder;
            return before.ended + (isFar ? far : near);
        }

        /** SHUT, or the letter of the first law that forbids the flight now. */
        private char lawAtDoors(Course course) {
            Flight flight = course.flight;
            Carrier plane = planes[flight.aircraft];
            int flying = plan.flyingTime(flight);
            if ((plan.crews[flight.crew].families >> familyOf(course) & 1) == 0 || isBeyondLimit(course, minute)) {
                return 'k';
            }
            if (plane.minutes < flying || plane.landings < 1) {
                return 'm';
            }
            return (plane.faults >> flight.to & 1) == 1 ? 'f' : SHUT;
        }

        private boolean isBeyondLimit(Course course, int shut) {
            Crew crew = plan.crews[course.flight.crew];
            int hours = shut + 10 + plan.flyingTime(course.flight) - crew.report;
            return hours > crew.limit(crews[course.flight.crew].landings + 1);
        }

        private void closeDoors(Course course) {
            course.state = 'd';
            course.shut = minute;
            log.note(minute, 'D', course.number);
            board(course);
            course.next = minute + 5 + 10 * course.bags;
            findWaited(course);
            for (int i = 0; i < plan.standCount; i++) {
                if (holders[i] == course.flight.aircraft) {
                    holders[i] = NONE;
                }
            }
        }

        private void board(Course course) {
            int seats = plan.aircraft[course.flight.aircraft].seats;
            latestPresent = 0;
            latestBy = NONE;
            for (int rank = 0; rank < RANKS; rank++) {
                for (int i = 0; i < plan.groupCount; i++) {
                    Group group = plan.groups[i];
                    if (group.rank == rank && journeys[i].isFor(course)) {
                        if (group.people <= seats && since(journeys[i], course, 30, 45) <= minute) {
                            seats -= group.people;
                            goOnBoard(journeys[i], group, course);
                        } else {
                            stayBehind(journeys[i], course);
                        }
                    }
                }
            }
        }

        private void stayBehind(Journey journey, Course course) {
            journey.isLeft = true;
            if (since(journey, course, 25, 50) <= minute) {
                course.bags++;
            }
        }

        private void goOnBoard(Journey journey, Group group, Course course) {
            if (since(journey, course, 25, 50) > minute) {
                lateBags++;
            }
            int present = since(journey, course, 30, 45);
            if (present > latestPresent) {
                latestPresent = present;
                latestBy = journey.taken;
            }
            journey.taken = course.number;
            if (journey.isLast || group.second == NONE) {
                journey.next = NONE;
            } else {
                journey.next = group.second;
                journey.isLast = true;
                journey.isLeft = courses[group.second].state != 's';
            }
        }

        /** Of what the doors waited for, keeps what came last. */
        private void findWaited(Course course) {
            Flight flight = course.flight;
            int plane = rested(planes[flight.aircraft], plan.aircraft[flight.aircraft].turn);
            int crew = rested(crews[flight.crew], 15);
            int group = latestPresent > course.due ? latestPresent : 0;
            int due = Math.max(course.due, plan.crews[flight.crew].report + 45);
            int last = Math.max(Math.max(plane, crew), Math.max(group, due));
            if (plane == last && planes[flight.aircraft].lastFlight != NONE) {
                course.waitedKind = 'a';
                course.waitedFlight = planes[flight.aircraft].lastFlight;
            } else if (crew == last && crews[flight.crew].lastFlight != NONE) {
                course.waitedKind = 'c';
                course.waitedFlight = crews[flight.crew].lastFlight;
            } else if (group == last && latestBy != NONE) {
                course.waitedKind = 'p';
                course.waitedFlight = latestBy;
            } else {
                course.waitedKind = 'h';
            }
        }

        private void goOnPads() {
            if (!plan.hasIce(minute)) {
                return;
            }
            lineUp('d');
            int busy = busyPads();
            for (int i = 0; i < lineLength && busy < plan.pads; i++) {
                Course course = line[i];
                if (course.flight.from == HOME && !course.isIcedOff(minute)) {
                    course.onPad = minute;
                    log.note(minute, 'P', course.number);
                    busy++;
                }
            }
        }

        private int busyPads() {
            int busy = 0;
            for (int i = 0; i < plan.flightCount; i++) {
                busy += courses[i].isOnPad(minute) ? 1 : 0;
            }
            return busy;
        }

        private void takeOff() {
            lineUp('d');
            for (int i = 0; i < lineLength; i++) {
                Course course = line[i];
                if (course.flight.from != HOME || !isKept(course)) {
                    leave(course);
                }
            }
        }

        private boolean isKept(Course course) {
            if (course.isOnPad(minute) || plan.hasIce(minute) && !course.isIcedOff(minute)) {
                course.iced++;
                return true;
            }
            if (course.slot != NONE && minute < course.slot - 5) {
                course.slotted++;
                return true;
            }
            if (course.slot != NONE && minute > course.slot + 10) {
                course.slotted++;
                course.slot = minute + 20;
                missed++;
                log.note(minute, 'M', course.number);
                return true;
            }
            if (!isRunwayFree(course)) {
                course.queued++;
                return true;
            }
            return false;
        }

        private void leave(Course course) {
            Flight flight = course.flight;
            Carrier plane = planes[flight.aircraft];
            Carrier crew = crews[flight.crew];
            if (plane.airport != flight.from || crew.airport != flight.from || isBeyondLimit(course, course.shut)) {
                isCrewed = false;
            }
            if (flight.from == HOME) {
                useRunway(course);
            }
            plane.minutes -= plan.flyingTime(flight);
            plane.landings--;
            crew.landings++;
            course.state = 'a';
            course.takenOff = minute;
            course.next = minute + plan.flyingTime(flight);
            log.note(minute, 'T', course.number);
        }

        private void bookAnew() {
            for (int rank = 0; rank < RANKS; rank++) {
                for (int i = 0; i < plan.groupCount; i++) {
                    if (journeys[i].isLeft && plan.groups[i].rank == rank) {
                        bookGroup(journeys[i], plan.groups[i]);
                    }
                }
            }
        }

        private void bookGroup(Journey journey, Group group) {
            journey.isLeft = false;
            Course best = null;
            for (int i = 0; i < plan.flightCount; i++) {
                Course course = courses[i];
                if (isFit(course, journey, group) && (best == null || course.due < best.due)) {
                    best = course;
                }
            }
            if (best == null) {
                journey.isStranded = true;
            } else {
                journey.next = best.number;
                journey.isLast = true;
            }
        }

        private boolean isFit(Course course, Journey journey, Group group) {
            Flight flight = course.flight;
            return course.state == 's' && journey.next != NONE
                    && flight.from == plan.flights[journey.next].from && flight.to == plan.flights[group.last()].to
                    && (flight.to < 2 || group.hasVisa)
                    && booked(course) + group.people <= plan.aircraft[flight.aircraft].seats;
        }

        private int booked(Course course) {
            int people = 0;
            for (int i = 0; i < plan.groupCount; i++) {
                if (journeys[i].isFor(course)) {
                    people += plan.groups[i].people;
                }
            }
            return people;
        }

        Course rootOf(Course course) {
            Course root = course;
            for (int i = 0; i < MOST_FLIGHTS; i++) {
                char letter = root.letterOfCause();
                if (letter != 'a' && letter != 'c' && letter != 'p' || root.waitedFlight == NONE) {
                    return root;
                }
                root = courses[root.waitedFlight];
            }
            return root;
        }

        int minutesLate(int number) {
            Group group = plan.groups[number];
            Journey journey = journeys[number];
            if (journey.isStranded || journey.next != NONE || journey.taken == NONE) {
                return 600;
            }
            Course last = courses[journey.taken];
            if (last.ended == NONE) {
                return 600;
            }
            Flight booked = plan.flights[group.last()];
            int late = last.ended - booked.off - plan.flyingTime(booked);
            return Math.max(0, Math.min(600, late));
        }

        int sumOfLateness() {
            int sum = 0;
            for (int i = 0; i < plan.groupCount; i++) {
                sum += plan.groups[i].people * minutesLate(i);
            }
            return sum;
        }

        int sumOfHarm() {
            int sum = sumOfLateness();
            for (int i = 0; i < plan.flightCount; i++) {
                sum += courses[i].state == 'x' ? 3000 : 0;
            }
            return sum;
        }

        int sumOfPay() {
            int sum = 0;
            for (int i = 0; i < plan.groupCount; i++) {
                if (minutesLate(i) >= 180 && !isExcused(journeys[i])) {
                    sum += 250 * plan.groups[i].people;
                }
            }
            return sum;
        }

        private boolean isExcused(Journey journey) {
            int number = journey.isStranded ? journey.next : journey.taken;
            if (number == NONE || !courses[number].hasCause()) {
                return false;
            }
            char letter = rootOf(courses[number]).letterOfCause();
            return letter == 'i' || letter == 's' || letter == 'q' || letter == 'x';
        }

        boolean isLawful() {
            for (int i = 0; i < plan.flightCount; i++) {
                for (int j = 0; j < plan.flightCount; j++) {
                    if (i != j && (isStandShared(courses[i], courses[j]) || isTooClose(courses[i], courses[j]))) {
                        return false;
                    }
                }
                Course course = courses[i];
                if (course.takenOff != NONE && course.takenOff < course.shut + 5 + 10 * course.bags) {
                    return false;
                }
            }
            return isCrewed;
        }

        private boolean isTooClose(Course ahead, Course behind) {
            int first = homeMinute(ahead);
            int second = homeMinute(behind);
            return first != NONE && second >= first && second < first + gap(familyOf(ahead), familyOf(behind));
        }

        /** The minute in which a flight was on the runway at home, or NONE. */
        private static int homeMinute(Course course) {
            return course.flight.from == HOME ? course.takenOff : course.landed;
        }

        private boolean isStandShared(Course first, Course second) {
            return first.stand != NONE && first.stand == second.stand
                    && second.ended >= first.ended && second.ended < standLeft(first);
        }

        /** The minute in which the aircraft of a flight shuts its doors next. */
        private int standLeft(Course course) {
            int left = MINUTES;
            for (int i = 0; i < plan.flightCount; i++) {
                Course other = courses[i];
                if (other.flight.aircraft == course.flight.aircraft && other.shut >= course.ended) {
                    left = Math.min(left, other.shut);
                }
            }
            return left;
        }
    }
}
