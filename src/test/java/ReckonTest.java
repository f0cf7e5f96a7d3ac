/** Causes, roots, harm, pay, shares and plans at the number that the document names, and at both its neighbours. */
public final class ReckonTest {
    private static final Check c = new Check();

    public static void main(String[] args) {
        onTime();
        mostMinutes();
        bagsAgainstOthers();
        keptMinutesAgainstEachOther();
        aircraftAgainstCrew();
        aircraftOrCrewAgainstDue();
        groupAgainstDue();
        groupAgainstOthers();
        groupOnBoardThatWasLast();
        lettersOfCancelled();
        roots();
        rootsOfManyFlights();
        latenessAroundNothing();
        latenessAroundTheMost();
        harmOfCancelled();
        harmOfPeople();
        paidFrom180();
        whoIsNotPaid();
        whoIsPaidThough();
        shares();
        means();
        holdsOfPlans();
        mostHoldsOfPlans();
        chosenPlans();
        swaps();
        swapsOfTen();
        trades();
        c.end("ReckonTest");
    }

    private static String minute(RunwayLoom x, int flight, char event) {
        return Check.outcome(() -> x.minuteOf(flight, event));
    }

    private static RunwayLoom out() {
        RunwayLoom x = new RunwayLoom();
        Check.add(x, 0, 1, 420);
        return x;
    }

    private static RunwayLoom held(int hold) {
        RunwayLoom x = out();
        x.hold(0, hold);
        return x;
    }

    private static void onTime() {
        c.same("22 a lateness of 0, and of 4, 5, 6 by a hold",
                Check.each(hold -> held(hold).cause(0), 0, 1, 4, 5, 6, 240), "- - - - h h");
        c.same("22 a lateness of 4, 5 and 6 by a slot", Check.each(slot -> {
            RunwayLoom x = out();
            x.slot(0, slot);
            return x.cause(0);
        }, 434, 435, 436), "- - s");
        c.same("22 a lateness of 4, 5 and 6 by the runway", Check.each(turn -> {
            RunwayLoom x = out();
            x.turnRunway(turn);
            return x.cause(0);
        }, 415, 416, 419, 420, 421), "- - - - q");
        c.same("22 a lateness of 4, 5 and 6 by ice", Check.each(to -> {
            RunwayLoom x = out();
            x.setPads(0);
            x.ice(425, to);
            return x.cause(0);
        }, 428, 429, 430), "- - i");
        c.same("22 a lateness of 5 and 6 by two kinds", Check.each(hold -> {
            RunwayLoom x = held(hold);
            x.turnRunway(418);
            return x.cause(0);
        }, 2, 3), "- -");
        c.same("22 a lateness of 6 by two kinds", Check.each(hold -> {
            RunwayLoom x = held(hold);
            x.turnRunway(421);
            return "" + x.cause(0) + x.minuteOf(0, 'T');
        }, 2, 3, 4), "q431 h431 h431");
    }

    /** A flight that is held, has some groups left behind, and is kept by ice, a slot and the runway, in that order. */
    private static char cause(int hold, int bags, int iced, int slotted, int queued) {
        RunwayLoom x = held(hold);
        for (int i = 0; i < bags; i++) {
            x.addGroup(0, -1, 41, 0, true);
        }
        int ready = 425 + hold + 10 * bags;
        x.setPads(0);
        x.ice(ready, ready + iced - 1);
        if (slotted > 0) {
            x.slot(0, ready + iced + slotted + 5);
        }
        int free = ready + iced + slotted + queued;
        if (queued > 0) {
            x.turnRunway(free - 10);
        }
        if (queued > 10) {
            x.turnRunway(free - 20);
        }
        c.same("step 6 the minute of the take-off", x.minuteOf(0, 'T'), free);
        char cause = x.cause(0);
        x.waitFor(0, 5);
        c.same("22 the minutes are counted from none on as the day is run anew", x.cause(0), cause);
        return cause;
    }

    private static void mostMinutes() {
        c.same("22 d and b", Check.each(hold -> cause(hold, 1, 0, 0, 0), 9, 10, 11), "b h h");
        c.same("22 d and two of b", Check.each(hold -> cause(hold, 2, 0, 0, 0), 19, 20, 21), "b h h");
        c.same("22 d and i", Check.each(hold -> cause(hold, 0, 12, 0, 0), 11, 12, 13), "i h h");
        c.same("22 d and s", Check.each(hold -> cause(hold, 0, 0, 12, 0), 11, 12, 13), "s h h");
        c.same("22 d and q", Check.each(hold -> cause(hold, 0, 0, 0, 12), 11, 12, 13), "q h h");
        c.same("22 d and all others", Check.each(hold -> cause(hold, 1, 10, 10, 10), 9, 10, 11), "b h h");
    }

    private static void bagsAgainstOthers() {
        c.same("22 b and i", Check.each(iced -> cause(0, 1, iced, 0, 0), 9, 10, 11), "b b i");
        c.same("22 b and s", Check.each(slotted -> cause(0, 1, 0, slotted, 0), 9, 10, 11), "b b s");
        c.same("22 b and q", Check.each(queued -> cause(0, 1, 0, 0, queued), 9, 10, 11), "b b q");
        c.same("22 two of b and i", Check.each(iced -> cause(0, 2, iced, 0, 0), 19, 20, 21), "b b i");
    }

    private static void keptMinutesAgainstEachOther() {
        c.same("22 i and s", Check.each(slotted -> cause(0, 0, 9, slotted, 0), 8, 9, 10), "i i s");
        c.same("22 i and q", Check.each(queued -> cause(0, 0, 9, 0, queued), 8, 9, 10), "i i q");
        c.same("22 s and q", Check.each(queued -> cause(0, 0, 0, 9, queued), 8, 9, 10), "s s q");
        c.same("22 i, s and q", Check.each(iced -> cause(0, 0, iced, 9, 9), 8, 9, 10), "s i i");
        c.same("22 a missed slot: the minute of that, and 14 till the next one", Check.each(hold -> {
            RunwayLoom x = held(hold);
            x.slot(0, 0);
            return "" + x.cause(0) + (x.minuteOf(0, 'T') - x.minuteOf(0, 'D'));
        }, 13, 14, 15, 16), "s20 s20 h20 h20");
        RunwayLoom pad = held(9);
        pad.ice(434, 434);
        c.same("22 the 10 minutes on a pad", pad.cause(0), 'i');
        pad.hold(0, 10);
        pad.ice(435, 435);
        c.same("22 the 10 minutes on a pad, and as many of d", pad.cause(0), 'h');
        RunwayLoom two = out();
        two.setPads(2);
        two.ice(425, 456);
        two.slot(0, 471);
        c.same("22 two times on a pad: 20 minutes, and 21 of the slot", "" + two.cause(0) + two.minuteOf(0, 'T'), "s466");
        two.slot(0, 414);
        c.same("22 missed, for the slot 6 minutes and the pads 10", "" + two.cause(0) + two.minuteOf(0, 'T'), "s450");
    }

    /** Flight 2 goes back from where the aircraft of flight 0 and the crew of flight 1 end, and these are held. */
    private static RunwayLoom twoAhead(int aircraftHold, int crewHold) {
        RunwayLoom x = new RunwayLoom();
        Check.add(x, 0, 1, 420);
        Check.add(x, 0, 1, 410);
        x.addFlight(1, 0, 480, 0, 1);
        x.hold(0, aircraftHold);
        x.hold(1, crewHold);
        return x;
    }

    private static String causeAndRoot(RunwayLoom x, int flight) {
        return "" + x.cause(flight) + x.root(flight);
    }

    private static void aircraftAgainstCrew() {
        c.same("22 a and c: 485 plus 30, and an end plus 15",
                Check.each(hold -> causeAndRoot(twoAhead(0, hold), 2), 24, 25, 26), "a0 a0 c1");
        c.same("22 a and c, the other way", Check.each(hold -> causeAndRoot(twoAhead(hold, 60), 2), 34, 35, 36),
                "c1 a0 a0");
    }

    private static void aircraftOrCrewAgainstDue() {
        c.same("22 a and the due", Check.each(hold -> {
            RunwayLoom x = twoAhead(0, 0);
            x.hold(2, hold);
            return causeAndRoot(x, 2);
        }, 34, 35, 36), "a0 a0 h2");
        c.same("22 c and the due", Check.each(hold -> {
            RunwayLoom x = twoAhead(0, 60);
            x.hold(2, hold);
            return causeAndRoot(x, 2);
        }, 69, 70, 71), "c1 c1 h2");
        c.same("22 a and the report plus 45", Check.each(report -> {
            RunwayLoom x = twoAhead(0, 0);
            x.addFlight(1, 0, 480, 0, x.addCrew(1, report, 7, true));
            x.cancel(2);
            return causeAndRoot(x, 3);
        }, 469, 470, 471), "a0 a0 h3");
        c.same("22 the report plus 45, and no flight ahead", Check.each(report -> {
            RunwayLoom x = new RunwayLoom();
            x.addAircraft(1, 0, 90, 60, 900, 9);
            x.addCrew(0, report, 7, true);
            x.addFlight(0, 1, 420, 0, 0);
            return causeAndRoot(x, 0);
        }, 380, 381, 600), "-0 h0 h0");
        RunwayLoom gone = out();
        gone.addFlight(0, 1, 430, 0, 0);
        gone.tell('x', 0, 0, 0, 460);
        gone.hold(0, 90);
        c.same("22 a flight ahead that was cancelled is none that is waited for", causeAndRoot(gone, 1), "h1");
    }

    /** Flight 0 comes home and ends at 490; its group goes on with flight 1, which waits for it as long as it may. */
    private static RunwayLoom connection(int airport, int off, int hold) {
        RunwayLoom x = new RunwayLoom();
        x.addStand(2, true);
        Check.add(x, airport, 0, 420);
        Check.add(x, 0, 1, off);
        x.waitFor(1, 60);
        x.hold(1, hold);
        x.addGroup(0, 1, 10, 1, true);
        return x;
    }

    private static void groupAgainstDue() {
        c.same("22 p, present behind the due, at it, and ahead of it",
                Check.each(hold -> causeAndRoot(connection(1, 500, hold), 1), 18, 19, 20, 21), "p0 p0 h1 h1");
        c.same("22 p, from beyond the border",
                Check.each(hold -> causeAndRoot(connection(3, 500, hold), 1), 33, 34, 35, 36), "p0 p0 h1 h1");
        c.same("22 p and the report plus 45", Check.each(report -> {
            RunwayLoom x = connection(1, 500, 0);
            x.addFlight(0, 1, 500, 1, x.addCrew(0, report, 7, true));
            x.waitFor(2, 60);
            x.addGroup(0, 2, 10, 1, true);
            x.cancel(1);
            return causeAndRoot(x, 2);
        }, 474, 475, 476), "p0 p0 h2");
    }

    /** Flight 2 is due at 500 and waits for a group of flight 1, and its aircraft has come with flight 0. */
    private static RunwayLoom groupAndAircraft(int hold, int groupOff) {
        RunwayLoom x = new RunwayLoom();
        x.addStand(1, true);
        x.addStand(1, true);
        Check.add(x, 1, 0, 410);
        Check.add(x, 2, 0, groupOff);
        x.addFlight(0, 1, 500, 0, x.addCrew(0, 360, 7, true));
        x.hold(0, hold);
        x.waitFor(2, 60);
        x.addGroup(1, 2, 10, 1, true);
        return x;
    }

    /** As above, but the crew has come with flight 0, and the aircraft has not. */
    private static RunwayLoom groupAndCrew(int hold, int groupOff) {
        RunwayLoom x = groupAndAircraft(hold, groupOff);
        x.cancel(2);
        x.addFlight(0, 1, 500, x.addAircraft(1, 0, 30, 60, 900, 9), 0);
        x.waitFor(3, 60);
        x.addGroup(1, 3, 10, 1, true);
        return x;
    }

    private static void groupAgainstOthers() {
        c.same("22 a and p: the turn is over at 530, the group is present at the minute off plus 115",
                Check.each(off -> causeAndRoot(groupAndAircraft(20, off), 2), 414, 415, 416, 417), "a0 a0 p1 p1");
        c.same("22 c and p: the pause is over at 535, the group is present at the minute off plus 115",
                Check.each(off -> causeAndRoot(groupAndCrew(40, off), 3), 419, 420, 421, 422), "c0 c0 p1 p1");
    }

    private static void groupOnBoardThatWasLast() {
        RunwayLoom x = connection(1, 500, 0);
        Check.add(x, 1, 0, 431);
        x.addStand(1, true);
        x.addGroup(2, 1, 10, 0, true);
        c.same("22 p, the group that was present last", causeAndRoot(x, 1) + minute(x, 1, 'D'), "p2531");
        for (int rank = 0; rank <= 2; rank++) {
            RunwayLoom both = new RunwayLoom();
            both.addStand(1, true);
            both.addStand(1, true);
            Check.add(both, 2, 0, 420);
            Check.add(both, 1, 0, 435);
            Check.add(both, 0, 1, 500);
            both.waitFor(2, 60);
            both.addGroup(1, 2, 10, 1, true);
            both.addGroup(0, 2, 10, rank, true);
            c.same("22 p, present in the same minute: the first one on board, of classes 1 and " + rank,
                    causeAndRoot(both, 2) + minute(both, 2, 'D'), rank == 0 ? "p0535" : "p1535");
        }
        RunwayLoom left = connection(1, 500, 0);
        Check.add(left, 1, 0, 431);
        left.addStand(1, true);
        left.addGroup(2, 1, 31, 2, true);
        c.same("22 p, a group without seats is not on board", causeAndRoot(left, 1) + minute(left, 1, 'D'), "p0531");
        RunwayLoom none = connection(1, 500, 0);
        none.waitFor(1, 19);
        c.same("22 a group that has not come is not on board", causeAndRoot(none, 1) + minute(none, 1, 'D'), "h1519");
        RunwayLoom first = out();
        first.hold(0, 30);
        first.addGroup(0, -1, 10, 1, true);
        c.same("22 a group at its first airport is awaited by none", causeAndRoot(first, 0), "h0");
    }

    private static void lettersOfCancelled() {
        RunwayLoom x = out();
        x.addGroup(0, -1, 10, 1, true);
        c.same("23 of one that took off", causeAndRoot(x, 0), "-0");
        x.fault(0, 1);
        c.same("22 f", causeAndRoot(x, 0), "f0");
        x.fly(0, 1, 300);
        x.addFlight(0, 1, 430, x.addAircraft(1, 0, 30, 60, 299, 9), 0);
        c.same("22 m", causeAndRoot(x, 1), "m1");
        x.addFlight(0, 1, 430, x.addAircraft(1, 0, 30, 60, 900, 9), x.addCrew(0, 0, 7, true));
        c.same("22 k", causeAndRoot(x, 2), "k2");
        x.addFlight(1, 0, 430, 2, 1);
        c.same("22 o", causeAndRoot(x, 3), "o3");
        x.addFlight(0, 1, 430, x.addAircraft(1, 0, 30, 60, 900, 9), x.addCrew(0, 1439, 7, true));
        c.same("22 l", causeAndRoot(x, 4), "l4");
        x.tell('x', 4, 0, 500, 500);
        c.same("22 x by a message", causeAndRoot(x, 4), "x4");
        x.cancel(0);
        c.same("22 x as it was told ahead", causeAndRoot(x, 0), "x0");
        RunwayLoom y = out();
        y.tell('x', 0, 0, 421, 421);
        c.same("22 a message that came too late is no cause", causeAndRoot(y, 0), "-0");
    }

    private static void roots() {
        RunwayLoom x = twoAhead(0, 60);
        x.addFlight(0, 1, 590, 0, 1);
        x.addStand(1, true);
        c.same("23 by a, then by c", "" + x.cause(1) + x.cause(2) + x.cause(3) + x.root(3), "hca1");
        x.hold(1, 5);
        c.same("23 the one that is waited for is on time itself", "" + x.cause(0) + causeAndRoot(x, 2), "-a0");
        RunwayLoom y = connection(1, 500, 0);
        y.slot(1, 560);
        c.same("23 a cause s is a root itself", causeAndRoot(y, 1), "s1");
        y.slot(1, 0);
        y.addFlight(1, 0, 600, 1, 1);
        c.same("23 by a, then by p", "" + y.cause(1) + y.cause(2) + y.root(2), "pa0");
    }

    private static void rootsOfManyFlights() {
        RunwayLoom x = new RunwayLoom();
        x.addAircraft(1, 0, 20, 60, 2000, 20);
        x.addStand(1, true);
        x.fly(0, 1, 30);
        for (int i = 0; i < 10; i++) {
            if (i % 2 == 0) {
                x.addCrew(0, 360 + 120 * (i / 2), 7, true);
            }
            x.addFlight(i % 2, 1 - i % 2, 420 + 60 * i, 0, i / 2);
        }
        x.hold(0, 100);
        StringBuilder text = new StringBuilder();
        for (int i = 0; i < 10; i++) {
            text.append(causeAndRoot(x, i)).append(' ');
        }
        c.same("23 ten flights of one aircraft", text, "h0 a0 a0 a0 a0 a0 a0 a0 a0 a0 ");
        x.hold(4, 240);
        c.same("23 from one in the middle on", causeAndRoot(x, 3) + causeAndRoot(x, 4) + causeAndRoot(x, 9), "a0h4a4");
    }

    /** A group that was booked on a flight off at 600, and goes with another one. */
    private static int latenessWith(int off) {
        RunwayLoom x = new RunwayLoom();
        Check.add(x, 0, 1, 600);
        Check.add(x, 0, 1, off);
        x.addGroup(0, -1, 10, 1, true);
        x.cancel(0);
        return x.lateness(0);
    }

    private static void latenessAroundNothing() {
        c.same("24 at least 0", Check.each(off -> latenessWith(off), 420, 593, 594, 595, 596, 597), "0 0 0 0 1 2");
        RunwayLoom x = out();
        x.addGroup(0, -1, 10, 1, true);
        x.fly(0, 1, 300);
        c.same("24 the flying time counts as it is now", x.lateness(0), 5);
        RunwayLoom home = new RunwayLoom();
        home.addStand(1, true);
        Check.add(home, 1, 0, 420);
        home.addGroup(0, -1, 10, 1, true);
        c.same("24 the end, not the landing", home.lateness(0), 10);
    }

    /** A group that was booked on a flight off at 420, and goes with another one. */
    private static RunwayLoom bookedLate(int off) {
        RunwayLoom x = new RunwayLoom();
        x.addAircraft(1, 0, 30, 60, 900, 9);
        x.addAircraft(1, 0, 30, 60, 900, 9);
        x.addCrew(0, 360, 7, true);
        x.addCrew(0, 840, 7, true);
        x.addFlight(0, 1, 420, 0, 0);
        x.addFlight(0, 1, off, 1, 1);
        x.addGroup(0, -1, 10, 1, true);
        x.cancel(0);
        return x;
    }

    private static void latenessAroundTheMost() {
        c.same("24 at most 600", Check.each(off -> bookedLate(off).lateness(0), 1013, 1014, 1015, 1016, 1200),
                "598 599 600 600 600");
        c.same("29 at most 600 for each of the people",
                Check.each(off -> bookedLate(off).harm(), 1014, 1015, 1016), "8990 9000 9000");
        RunwayLoom first = connection(1, 430, 0);
        first.waitFor(1, 0);
        c.same("24 it has come to the first flight's end, not to the last one's",
                "" + first.lateness(0) + first.lastOf(0) + first.isStranded(0), "6000true");
    }

    private static void harmOfCancelled() {
        RunwayLoom x = new RunwayLoom();
        c.same("29 nothing", x.harm(), 0);
        x.addAircraft(1, 0, 30, 60, 900, 9);
        x.addCrew(0, 360, 7, true);
        for (int i = 0; i < 10; i++) {
            x.addFlight(0, 1, 420, 0, 0);
        }
        c.same("29 one flies, nine are cancelled", x.harm(), 27000);
        x.cancel(0);
        c.same("29 the next one flies, nine are cancelled", x.harm(), 27000);
        for (int i = 1; i < 10; i++) {
            x.cancel(i);
        }
        c.same("29 all ten are cancelled", x.harm(), 30000);
        RunwayLoom stuck = held(0);
        stuck.ice(0, 1999);
        stuck.setPads(0);
        c.same("29 one with shut doors is not cancelled", stuck.harm(), 0);
        RunwayLoom air = held(0);
        air.slot(0, 1999);
        c.same("29 one in the air is not cancelled", air.harm(), 0);
    }

    private static void harmOfPeople() {
        c.same("29 the least and the most people", Check.each(people -> {
            RunwayLoom x = new RunwayLoom();
            x.addAircraft(1, 0, 30, 300, 900, 9);
            x.addCrew(0, 360, 7, true);
            x.addFlight(0, 1, 420, 0, 0);
            x.addGroup(0, -1, people, 1, true);
            return x.harm();
        }, 1, 2, 49, 50), "5 10 245 250");
        RunwayLoom x = out();
        for (int i = 0; i < 12; i++) {
            x.addGroup(0, -1, 50, i % 3, true);
        }
        c.same("29 twelve stranded groups of 50", x.harm(), 12 * 50 * 600);
        c.same("30 twelve stranded groups of 50", x.paid(), 12 * 50 * 250);
        c.same("36 twelve stranded groups of 50", x.meanLateness(), 600.0);
    }

    private static String lateAndPaid(RunwayLoom x) {
        return x.lateness(0) + "/" + x.paid();
    }

    private static void paidFrom180() {
        c.same("30 a lateness of 179, 180, 181", Check.each(hold -> {
            RunwayLoom x = held(hold);
            x.addGroup(0, -1, 10, 1, true);
            return lateAndPaid(x);
        }, 173, 174, 175, 176), "178/0 179/0 180/2500 181/2500");
        c.same("30 with one that took off on time", Check.each(off -> {
            RunwayLoom x = new RunwayLoom();
            Check.add(x, 0, 1, 420);
            Check.add(x, 0, 1, off);
            x.addGroup(0, -1, 10, 1, true);
            x.cancel(0);
            return x.cause(1) + lateAndPaid(x);
        }, 594, 595, 596), "-179/0 -180/2500 -181/2500");
        c.same("30 one, two and fifty people", Check.each(people -> {
            RunwayLoom x = out();
            x.addGroup(0, -1, people, 1, true);
            x.fault(0, 1);
            return x.paid();
        }, 1, 2, 50), "250 500 12500");
    }

    private static void whoIsNotPaid() {
        RunwayLoom queue = new RunwayLoom();
        Check.add(queue, 0, 1, 420);
        Check.add(queue, 0, 1, 700);
        queue.addGroup(0, -1, 10, 1, true);
        queue.fault(0, 1);
        c.same("30 with one that took off on time", lateAndPaid(queue), "285/2500");
        queue.turnRunway(705);
        c.same("30 the root of the flight that it took has the cause q", lateAndPaid(queue), "295/0");
        RunwayLoom slot = new RunwayLoom();
        slot.addStand(1, true);
        int first = Check.add(slot, 1, 0, 420);
        slot.addFlight(0, 1, 520, first, first);
        slot.addFlight(1, 0, 620, first, first);
        slot.addGroup(2, -1, 10, 1, true);
        slot.slot(1, 710);
        c.same("30 the root of its flight has the cause s", slot.cause(2) + lateAndPaid(slot), "a185/0");
        slot.slot(1, 530);
        slot.hold(1, 180);
        c.same("30 the root of its flight has the cause h", slot.cause(2) + lateAndPaid(slot), "a200/2500");
        RunwayLoom left = out();
        left.addGroup(0, -1, 41, 1, true);
        left.ice(435, 450);
        left.setPads(0);
        c.same("30 stranded by a flight with the cause i", left.cause(0) + lateAndPaid(left), "i600/0");
        left.ice(435, 444);
        c.same("30 stranded by a flight with the cause b", left.cause(0) + lateAndPaid(left), "b600/10250");
        RunwayLoom second = connection(1, 600, 0);
        second.cancel(1);
        c.same("30 stranded: the last one that was its next, not the one that it took", lateAndPaid(second), "600/0");
        second.cancel(0);
        c.same("30 stranded ahead of its first one", lateAndPaid(second), "600/0");
    }

    private static void whoIsPaidThough() {
        RunwayLoom letters = out();
        letters.addGroup(0, -1, 10, 1, true);
        letters.addFlight(1, 0, 430, 0, 0);
        letters.addGroup(1, -1, 1, 1, true);
        c.same("30 late, with the cause a, for one on time", letters.cause(1) + lateAndPaid(letters), "a5/0");
        letters.fault(0, 1);
        c.same("30 stranded by f and o", letters.cause(0) + "" + letters.cause(1) + lateAndPaid(letters), "fo600/2750");
        letters.cancel(0);
        c.same("30 stranded by x and o", letters.cause(0) + "" + letters.cause(1) + lateAndPaid(letters), "xo600/250");
        RunwayLoom air = out();
        air.slot(0, 1999);
        air.addGroup(0, -1, 10, 1, true);
        c.same("30 in the air with the cause s", lateAndPaid(air), "600/0");
        RunwayLoom shut = out();
        shut.addGroup(0, -1, 10, 1, true);
        shut.ice(0, 1999);
        shut.setPads(0);
        c.same("30 on board of one that never took off", lateAndPaid(shut), "600/2500");
    }

    private static void shares() {
        for (int late = 0; late <= 5; late++) {
            RunwayLoom x = new RunwayLoom();
            for (int i = 0; i < 5; i++) {
                Check.add(x, 0, 1, 420 + 30 * i);
                x.hold(i, i < late ? 6 : 5);
            }
            c.same("35 of five, late: " + late, x.onTimeShare(), (float) (5 - late) / (float) 5);
        }
        RunwayLoom x = out();
        c.same("35 one of one", x.onTimeShare(), 1.0f);
        x.ice(0, 1999);
        x.setPads(0);
        c.same("35 one with shut doors is not on time", x.onTimeShare(), 0.0f);
        RunwayLoom ten = out();
        for (int i = 1; i < 10; i++) {
            ten.addFlight(0, 1, 430, 0, 0);
        }
        c.same("35 one of ten", ten.onTimeShare(), 0.1f);
    }

    private static void means() {
        RunwayLoom none = new RunwayLoom();
        c.same("36 no groups", Check.outcome(() -> none.meanLateness()), "ArithmeticException");
        c.same("35 no flights", Check.outcome(() -> none.onTimeShare()), "ArithmeticException");
        RunwayLoom x = out();
        c.same("36 no groups, but flights", Check.outcome(() -> x.meanLateness()), "ArithmeticException");
        x.addGroup(0, -1, 1, 1, true);
        c.same("36 one of one", x.meanLateness(), 5.0);
        x.addGroup(0, -1, 50, 2, true);
        c.same("36 the mean of people, not of groups", x.meanLateness(), (double) (15 + 50 * 600) / (double) 51);
        x.cancel(0);
        c.same("36 the most", x.meanLateness(), 600.0);
        RunwayLoom early = new RunwayLoom();
        Check.add(early, 0, 1, 600);
        Check.add(early, 0, 1, 500);
        early.addGroup(0, -1, 3, 1, true);
        early.cancel(0);
        c.same("36 none are late", early.meanLateness(), 0.0);
    }

    /** How long a hold flight 1 has in the best plan, as it needs one of some minutes for its group. */
    private static String plan(int needed, int hold) {
        RunwayLoom x = new RunwayLoom();
        x.addStand(2, true);
        Check.add(x, 1, 0, 450 + needed);
        Check.add(x, 0, 1, 550);
        x.hold(1, hold);
        x.addGroup(0, 1, 10, 1, true);
        boolean isBest = x.isBest(2);
        x.recover(2);
        return x.hold(1, 0) + (isBest ? "!" : "");
    }

    private static void holdsOfPlans() {
        c.same("33 as it is, 20 more, 40 more, and too little",
                Check.each(needed -> plan(needed, 0), 0, 1, 19, 20, 21, 39, 40, 41), "0! 20 20 20 40 40 40 0!");
        c.same("33 more than a hold that was told",
                Check.each(needed -> plan(needed, 7), 7, 8, 27, 28, 47, 48), "7! 27 27 47 47 7!");
    }

    private static void mostHoldsOfPlans() {
        c.same("33 just not more than 240",
                Check.each(needed -> plan(needed, 199), 199, 219, 220, 239, 240), "199! 219 239 239 199!");
        c.same("33 just 240", Check.each(needed -> plan(needed, 200), 220, 221, 240, 241), "220 240 240 200!");
        c.same("33 240 in place of 241", Check.each(needed -> plan(needed, 201), 221, 222, 240, 241), "221 240 240 201!");
        c.same("33 240 in place of 240 and 260", Check.each(needed -> plan(needed, 220), 220, 221, 240, 241),
                "220! 240 240 220!");
        c.same("33 240 in place of 241 and 261", Check.each(needed -> plan(needed, 221), 221, 222, 240, 241),
                "221! 240 240 221!");
        c.same("33 240 already", Check.each(needed -> plan(needed, 240), 239, 240, 241), "240! 240! 240!");
    }

    private static void chosenPlans() {
        RunwayLoom x = new RunwayLoom();
        x.addAircraft(1, 0, 30, 300, 900, 9);
        x.addCrew(0, 360, 7, true);
        x.addFlight(0, 1, 420, 0, 0);
        x.addFlight(0, 1, 430, 0, 0);
        c.same("33 a cancelling that does as much harm is not taken", x.recover(1) + " " + x.isBest(1), "3000 true");
        x.addGroup(1, -1, 5, 0, true);
        c.same("33 one that does less is", x.isBest(1) + " " + x.recover(1) + x.cancel(0), "false 3025false");
        RunwayLoom y = new RunwayLoom();
        y.addAircraft(1, 0, 30, 300, 900, 9);
        y.addCrew(0, 360, 7, true);
        y.addFlight(0, 1, 420, 0, 0);
        c.same("33 one flight, and nothing is to be gained", y.recover(1) + " " + y.isBest(1) + y.cancel(0), "0 truetrue");
        c.same("34 a cancelled one stays so", y.isBest(1) + " " + y.recover(1) + y.hold(0, 0), "true 30000");
    }

    private static RunwayLoom swapped(int flight, int other) {
        RunwayLoom x = new RunwayLoom();
        x.addAircraft(1, 0, 30, 60, 900, 9);
        x.addAircraft(1, 0, 30, 60, 900, 9);
        x.addCrew(0, 360, 7, true);
        int[] offs = {500, 500, 501, 499, 700, 699, 701};
        for (int i = 0; i < offs.length; i++) {
            x.addFlight(0, 1, offs[i], i < 4 ? 0 : 1, 0);
        }
        x.hold(0, 240);
        x.swap(flight, other);
        return x;
    }

    /** The aircraft that each flight has then: one with aircraft 1 can't be swapped with another one that has it. */
    private static String aircraftThen(int flight, int other) {
        StringBuilder text = new StringBuilder();
        for (int i = 0; i < 7; i++) {
            RunwayLoom x = swapped(flight, other);
            int each = i;
            int mark = x.addFlight(0, 1, 0, 1, 0);
            text.append(Check.outcome(() -> x.swap(each, mark)).equals("1") ? 0 : 1);
        }
        return text.toString();
    }

    private static void swapsOfTen() {
        RunwayLoom x = Check.home();
        for (int i = 0; i < 10; i++) {
            x.addFlight(0, 1, 420 + 10 * i, i % 2, 0);
        }
        c.same("15 all of ten flights", x.swap(0, 1) + " " + x.swap(9, 8) + " " + x.swap(8, 9), "1 1 1");
    }

    private static void swaps() {
        c.same("15 from the second of one minute off on", aircraftThen(1, 4), "0110010");
        c.same("15 from the first of one minute off on", aircraftThen(0, 5), "1110000");
        c.same("15 the last ones alone", aircraftThen(2, 6), "0010110");
        c.same("15 all of one, and the last one of the other", aircraftThen(3, 6), "1111110");
        c.same("15 the other way round", aircraftThen(4, 1) + ' ' + aircraftThen(6, 3), "0110010 1111110");
    }

    private static void trades() {
        RunwayLoom x = new RunwayLoom();
        Check.add(x, 0, 1, 420);
        Check.add(x, 0, 1, 420);
        x.slot(0, 0);
        x.slot(1, 1999);
        c.same("12 the first and the last minute", x.trade(0, 1) + " " + x.slot(0, 5) + " " + x.slot(1, 5), "1999 1999 0");
    }
}
