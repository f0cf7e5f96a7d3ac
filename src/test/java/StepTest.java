/** The steps of a minute at the minute or the number that the document names, and at both its neighbours. */
public final class StepTest {
    private static final Check c = new Check();

    public static void main(String[] args) {
        ordersOfFlights();
        endOfTheDay();
        endOfTheDayAtHome();
        startOfTheDay();
        messagesAtTheDoors();
        messagesOfOneMinute();
        outdatedMessages();
        landings();
        landingsInLine();
        runwayBehindLandings();
        runwayBehindTakeOffs();
        closedRunway();
        standsInTime();
        standsThatFit();
        standsInLine();
        standsOfAnotherRun();
        messagesOfAnotherRun();
        minutesInTheLog();
        c.end("StepTest");
    }

    private static String log(RunwayLoom x, int flight) {
        return Check.log(x, flight);
    }

    private static String minute(RunwayLoom x, int flight, char event) {
        return Check.outcome(() -> x.minuteOf(flight, event));
    }

    /** Two flights out of one aircraft and crew; the one behind finds them elsewhere. */
    private static String order(int firstOff, int hold, int secondOff) {
        RunwayLoom x = Check.home();
        x.addFlight(0, 1, firstOff, 0, 0);
        x.addFlight(0, 1, secondOff, 0, 0);
        x.hold(0, hold);
        return "" + x.cause(0) + x.cause(1);
    }

    private static void ordersOfFlights() {
        c.same("the order is that of the minutes off, then of the numbers",
                Check.each(off -> order(430, 0, off), 429, 430, 431), "o- -o -o");
        c.same("a hold does not change the order",
                Check.each(off -> order(430, 9, off), 429, 430, 431), "o- ho ho");
        for (int crew = 0; crew <= 1; crew++) {
            RunwayLoom x = Check.home();
            x.addFlight(0, 1, 430, 0, 0);
            x.addFlight(0, 1, 430, 1 - crew, crew);
            c.same("just the crew, or just the aircraft, is shared: " + crew, Check.log(x),
                    "430D0;435T0;495E0;495o1;");
        }
        RunwayLoom x = Check.home();
        x.addFlight(0, 1, 430, 0, 0);
        x.addFlight(0, 1, 430, 1, 1);
        c.same("nothing is shared", Check.log(x), "430D0;430D1;435T0;437T1;495E0;497E1;");
    }

    /** A flight out with a late slot, and the runway closed from a minute on. */
    private static RunwayLoom lateOut(int slot, int turn) {
        RunwayLoom x = new RunwayLoom();
        Check.add(x, 0, 1, 420);
        x.slot(0, slot);
        x.turnRunway(turn);
        return x;
    }

    private static void endOfTheDay() {
        c.same("the last minute of a take-off is 1999",
                Check.each(turn -> log(lateOut(1999, turn), 0), 1988, 1989, 1990),
                "420D0;1998T0; 420D0;1999T0; 420D0;");
        c.same("19 in the air, or with shut doors", Check.each(turn -> lateOut(1999, turn).state(0), 1989, 1990), "a d");
        c.same("22 the cause of a take-off in the last minute, and of none",
                Check.each(turn -> lateOut(1999, turn).cause(0), 1989, 1990), "s NoSuchElementException");
        c.same("the last minute of an end elsewhere is 1999",
                Check.each(slot -> minute(lateOut(slot, 0), 0, 'E'), 1943, 1944, 1945),
                "1998 1999 NoSuchElementException");
        c.same("19 ended, or in the air", Check.each(slot -> lateOut(slot, 0).state(0), 1944, 1945), "e a");
        c.same("24 it has come there, or not", Check.each(slot -> latenessOf(lateOut(slot, 0)), 1000, 1944, 1945),
                "575 600 600");
        c.same("29 it has not come there, but is not cancelled", Check.each(slot -> {
            RunwayLoom x = lateOut(slot, 0);
            x.addGroup(0, -1, 1, 0, true);
            return x.harm();
        }, 1944, 1945), "600 600");
    }

    private static int latenessOf(RunwayLoom x) {
        return x.lateness(x.addGroup(0, -1, 1, 0, true));
    }

    /** A flight home that takes off in the minute 1684, and the runway closed twice. */
    private static RunwayLoom lateHome(int flying, int firstTurn, int secondTurn) {
        RunwayLoom x = new RunwayLoom();
        x.addAircraft(1, 1, 30, 60, 900, 9);
        x.addCrew(1, 1439, 7, true);
        x.addFlight(1, 0, 1439, 0, 0);
        x.hold(0, 240);
        x.fly(1, 0, flying);
        x.turnRunway(firstTurn);
        x.turnRunway(secondTurn);
        return x;
    }

    private static void endOfTheDayAtHome() {
        c.same("the last minute of a landing is 1999",
                Check.each(turn -> log(lateHome(300, turn, turn + 10), 0), 1978, 1979, 1980),
                "1679D0;1684T0;1998L0; 1679D0;1684T0;1999L0; 1679D0;1684T0;");
        c.same("19 waiting, or in the air",
                Check.each(turn -> lateHome(300, turn, turn + 10).state(0), 1979, 1980), "w a");
        Check.Trial withStand = (x, n) -> x.addStand(1, true) + log(x, 0).substring(14);
        c.same("the last minute of an end at a stand is 1999",
                Check.each(turn -> withStand.on(lateHome(300, turn, turn + 10), 0), 1973, 1974, 1975),
                "01993L0;1998E0; 01994L0;1999E0; 01995L0;");
        c.same("the last minute of an end without a stand is 1999",
                Check.each(flying -> log(lateHome(flying, 0, 0), 0).substring(14), 254, 255, 256),
                "1938L0;1998E0; 1939L0;1999E0; 1940L0;");
        c.same("21 it got none", Check.outcome(() -> lateHome(255, 0, 0).standOf(0)), "NoSuchElementException");
    }

    private static void startOfTheDay() {
        RunwayLoom x = new RunwayLoom();
        x.addAircraft(1, 1, 30, 60, 900, 9);
        x.addCrew(0, 0, 7, true);
        for (int i = 0; i < 4; i++) {
            x.addFlight(0, 1, 0, 0, 0);
        }
        x.tell('x', 3, 0, 0, 0);
        x.tell('x', 0, 0, 0, 0);
        x.cancel(2);
        x.cancel(1);
        c.same("told ahead, then by messages as they are numbered, in the minute 0", Check.log(x), "0x1;0x2;0x3;0x0;");
        RunwayLoom y = new RunwayLoom();
        y.addAircraft(1, 1, 30, 60, 900, 9);
        y.addCrew(0, 0, 7, true);
        y.addFlight(0, 1, 0, 0, 0);
        y.addFlight(0, 1, 0, 0, 0);
        c.same("the doors are looked at in the minute 0", Check.log(y), "0o0;0o1;");
        RunwayLoom z = new RunwayLoom();
        z.addAircraft(1, 0, 30, 60, 900, 9);
        z.addCrew(0, 0, 7, true);
        z.addFlight(0, 1, 0, 0, 0);
        z.turnRunway(0);
        z.ice(0, 50);
        z.setPads(0);
        c.same("ice from the minute 0 on", Check.log(z), "45D0;51T0;111E0;");
    }

    private static RunwayLoom told(char kind, int number, int comes) {
        RunwayLoom x = new RunwayLoom();
        Check.add(x, 0, 1, 420);
        x.tell(kind, 0, number, 100, comes);
        return x;
    }

    private static void messagesAtTheDoors() {
        c.same("step 1 a scheduled flight is cancelled, one with shut doors is not",
                Check.each(comes -> Check.log(told('x', 0, comes)), 419, 420, 421),
                "419x0; 420x0; 420D0;425T0;485E0;");
        c.same("step 1 the aircraft must not fly there, or has shut its doors",
                Check.each(comes -> Check.log(told('f', 0, comes)), 419, 420, 421),
                "420f0; 420f0; 420D0;425T0;485E0;");
        c.same("step 1 a hold that comes ahead of the doors, at them, and behind them",
                Check.each(comes -> minute(told('h', 3, comes), 0, 'D'), 419, 420, 421), "423 423 420");
        c.same("step 1 the least and the most hold",
                Check.each(hold -> minute(told('h', hold, 400), 0, 'D'), 0, 1, 239, 240), "420 421 659 660");
        c.same("step 1 a hold that comes in each state does no harm",
                Check.each(comes -> Check.log(told('h', 9, comes)), 422, 425, 430, 485, 486, 1999),
                "420D0;425T0;485E0; ".repeat(6).trim());
        c.same("step 1 nor does a cancelling that comes in each state",
                Check.each(comes -> Check.log(told('x', 9, comes)), 422, 425, 430, 485, 486, 1999),
                "420D0;425T0;485E0; ".repeat(6).trim());
    }

    private static String twoHolds(int firstHappened, int secondHappened, int firstComes, int secondComes) {
        RunwayLoom x = new RunwayLoom();
        Check.add(x, 0, 1, 420);
        x.tell('h', 0, 20, firstHappened, firstComes);
        x.tell('h', 0, 50, secondHappened, secondComes);
        return minute(x, 0, 'D');
    }

    private static void messagesOfOneMinute() {
        c.same("step 1 by their numbers: the first one happened later, then, earlier",
                Check.each(happened -> twoHolds(200, happened, 300, 300), 199, 200, 201), "440 470 470");
        RunwayLoom x = new RunwayLoom();
        Check.add(x, 0, 1, 420);
        Check.add(x, 0, 1, 420);
        x.tell('x', 1, 0, 5, 300);
        x.tell('h', 0, 7, 5, 300);
        x.tell('x', 0, 0, 5, 300);
        c.same("step 1 many in one minute", Check.log(x), "300x1;300x0;");
    }

    private static void outdatedMessages() {
        c.same("step 1 one that happened later was done ahead",
                Check.each(happened -> twoHolds(200, happened, 300, 301), 199, 200, 201), "440 470 470");
        c.same("step 1 one that happened later has not come yet",
                Check.each(happened -> twoHolds(200, happened, 301, 300), 199, 200, 201), "440 440 470");
        RunwayLoom x = new RunwayLoom();
        Check.add(x, 0, 1, 420);
        x.tell('h', 0, 50, 199, 302);
        x.tell('h', 0, 20, 200, 301);
        x.tell('h', 0, 80, 201, 300);
        x.tell('h', 0, 10, 201, 303);
        c.same("step 1 what did nothing is not done itself", minute(x, 0, 'D'), 430);
        RunwayLoom y = new RunwayLoom();
        Check.add(y, 0, 1, 420);
        Check.add(y, 0, 1, 420);
        y.tell('x', 1, 0, 290, 300);
        y.tell('h', 1, 9, 290, 300);
        y.tell('f', 0, 0, 290, 300);
        y.tell('h', 0, 30, 200, 301);
        c.same("step 1 other kinds, and other flights, are none of its matter", Check.log(y), "300x1;450f0;");
    }

    private static void landings() {
        for (int flying : new int[] {30, 31, 299, 300}) {
            RunwayLoom x = new RunwayLoom();
            Check.add(x, 0, 1, 420);
            Check.add(x, 1, 0, 430);
            x.fly(0, 1, flying);
            c.same("step 2 elsewhere, in the minute of the take-off plus the flying time", minute(x, 0, 'E'), 425 + flying);
            c.same("step 2 at home, too", minute(x, 1, 'L'), 435 + flying);
        }
        RunwayLoom y = new RunwayLoom();
        Check.add(y, 0, 2, 420);
        Check.add(y, 0, 1, 420);
        y.turnRunway(480);
        c.same("step 2 elsewhere no runway is looked at", Check.log(y), "420D0;420D1;425T0;427T1;485E0;487E1;");
    }

    /** Flight 0 of a family arrives at home in the minute 485, flight 1 of another one in that of an off plus 65. */
    private static RunwayLoom arrivals(int family, int otherFamily, int otherOff) {
        RunwayLoom x = new RunwayLoom();
        x.addStand(2, true);
        x.addStand(2, true);
        x.addStand(2, true);
        Check.addOf(x, family, 1, 0, 420);
        Check.addOf(x, otherFamily, 1, 0, otherOff);
        return x;
    }

    private static String landed(RunwayLoom x) {
        return minute(x, 0, 'L') + ',' + minute(x, 1, 'L');
    }

    private static void landingsInLine() {
        c.same("step 2 by the minute, then by numbers",
                Check.each(off -> landed(arrivals(1, 1, off)), 419, 420, 421), "486,484 485,487 485,487");
        RunwayLoom x = arrivals(0, 2, 421);
        Check.addOf(x, 2, 2, 0, 419);
        c.same("step 2 it lands if the runway is free for it, though one ahead in line waits", landed(x), "490,486");
        RunwayLoom y = arrivals(1, 1, 420);
        y.turnRunway(480);
        c.same("step 2 they wait in line for the runway", landed(y), "490,492");
        RunwayLoom z = arrivals(1, 1, 419);
        z.turnRunway(480);
        c.same("step 2 the line is by the minute of each", landed(z), "492,490");
    }

    private static final int[][] GAPS = {{2, 2, 2}, {3, 2, 2}, {4, 3, 2}};

    private static void runwayBehindLandings() {
        for (int ahead = 0; ahead <= 2; ahead++) {
            for (int behind = 0; behind <= 2; behind++) {
                int gap = GAPS[ahead][behind];
                String families = ahead + " ahead of " + behind + ", ";
                for (int i = gap - 1; i <= gap + 1; i++) {
                    int due = 485 + Math.max(i, gap);
                    c.same("a landing behind a landing, " + families + i,
                            minute(arrivals(ahead, behind, 420 + i), 1, 'L'), due);
                    RunwayLoom x = new RunwayLoom();
                    Check.addOf(x, ahead, 1, 0, 420);
                    Check.addOf(x, behind, 0, 1, 480 + i);
                    c.same("a take-off behind a landing, " + families + i, minute(x, 1, 'T'), due);
                }
            }
        }
    }

    private static void runwayBehindTakeOffs() {
        for (int ahead = 0; ahead <= 2; ahead++) {
            for (int behind = 0; behind <= 2; behind++) {
                int gap = GAPS[ahead][behind];
                String families = ahead + " ahead of " + behind + ", ";
                for (int i = gap - 1; i <= gap + 1; i++) {
                    int due = 485 + Math.max(i, gap);
                    RunwayLoom x = new RunwayLoom();
                    Check.addOf(x, ahead, 0, 1, 480);
                    Check.addOf(x, behind, 0, 1, 480 + i);
                    c.same("a take-off behind a take-off, " + families + i, minute(x, 1, 'T'), due);
                    RunwayLoom y = new RunwayLoom();
                    Check.addOf(y, ahead, 0, 1, 480);
                    Check.addOf(y, behind, 1, 0, 420 + i);
                    c.same("a landing behind a take-off, " + families + i, minute(y, 1, 'L'), due);
                }
            }
        }
        RunwayLoom z = new RunwayLoom();
        Check.addOf(z, 2, 0, 1, 417);
        Check.addOf(z, 1, 0, 1, 419);
        Check.addOf(z, 0, 0, 1, 420);
        c.same("three in line, each one smaller", Check.log(z).substring(18, 36), "422T0;425T1;428T2;");
    }

    private static RunwayLoom turned(int first, int second, int third) {
        RunwayLoom x = Check.outAndBack();
        x.turnRunway(first);
        x.turnRunway(second);
        x.turnRunway(third);
        return x;
    }

    private static void closedRunway() {
        c.same("closed for 10 minutes, at a take-off",
                Check.each(turn -> minute(turned(turn, 0, 0), 0, 'T'), 414, 415, 416, 417, 424, 425, 426),
                "425 425 426 427 434 435 425");
        c.same("closed for 10 minutes, at a landing",
                Check.each(turn -> minute(turned(0, turn, 0), 1, 'L'), 574, 575, 576, 577, 584, 585, 586),
                "585 585 586 587 594 595 585");
        c.same("turned again while it is closed, just then, and behind",
                Check.each(turn -> minute(turned(420, turn, 0), 0, 'T'), 428, 429, 430, 431), "438 439 440 430");
        c.same("turned three times", minute(turned(436, 416, 426), 0, 'T'), 446);
        c.same("turned three times in one minute", minute(turned(425, 425, 425), 0, 'T'), 435);
        c.same("turned in the last minute", minute(turned(1999, 1999, 1999), 0, 'T'), 425);
    }

    /** The only stand is that of an aircraft that ended at 460 and shuts its doors at a minute; flight 1 lands at 585. */
    private static RunwayLoom standTaken(int shut) {
        RunwayLoom x = new RunwayLoom();
        x.addStand(1, true);
        int first = Check.add(x, 1, 0, 405);
        Check.add(x, 1, 0, 520);
        x.addFlight(0, 1, shut, first, first);
        return x;
    }

    private static String parked(RunwayLoom x, int flight) {
        return minute(x, flight, 'E') + ',' + Check.outcome(() -> x.standOf(flight)).replace("Exception", "");
    }

    private static void standsInTime() {
        c.same("step 3 5 minutes behind the landing, or when a stand is free then",
                Check.each(shut -> parked(standTaken(shut), 1), 587, 588, 589, 590, 591), "590,0 590,0 590,0 591,0 592,0");
        c.same("step 3 60 minutes behind the landing, with or without one",
                Check.each(shut -> parked(standTaken(shut), 1), 642, 643, 644, 645, 646),
                "643,0 644,0 645,0 645,NoSuchElement 645,NoSuchElement");
        RunwayLoom x = new RunwayLoom();
        Check.add(x, 1, 0, 420);
        c.same("step 3 there are no stands", log(x, 0), "420D0;425T0;485L0;545E0;");
        RunwayLoom small = new RunwayLoom();
        Check.addOf(small, 0, 1, 0, 420);
        c.same("step 3 there are none for the smallest family, too", parked(small, 0), "545,NoSuchElement");
        RunwayLoom six = new RunwayLoom();
        for (int i = 0; i < 6; i++) {
            six.addStand(1, false);
        }
        Check.addOf(six, 2, 1, 0, 420);
        Check.addOf(six, 0, 2, 0, 440);
        c.same("step 3 none of six fits", parked(six, 0) + ' ' + parked(six, 1), "545,NoSuchElement 565,NoSuchElement");
        RunwayLoom y = standTaken(700);
        y.addGroup(1, -1, 7, 0, true);
        c.same("24 an end without a stand is an end", y.lateness(0), 645 - 520 - 60);
    }

    private static void standsThatFit() {
        for (int stand = 0; stand <= 2; stand++) {
            for (int family = 0; family <= 2; family++) {
                RunwayLoom x = new RunwayLoom();
                x.addStand(stand, true);
                Check.addOf(x, family, 1, 0, 420);
                c.same("step 3 a stand for " + stand + ", family " + family, parked(x, 0),
                        stand >= family ? "490,0" : "545,NoSuchElement");
            }
        }
        for (int airport = 1; airport <= 3; airport++) {
            for (int border = 0; border <= 1; border++) {
                RunwayLoom x = new RunwayLoom();
                x.addStand(1, border == 1);
                Check.add(x, airport, 0, 420);
                c.same("step 3 from " + airport + ", border " + border, parked(x, 0),
                        airport == 1 || border == 1 ? "490,0" : "545,NoSuchElement");
            }
        }
        RunwayLoom y = new RunwayLoom();
        for (int i = 0; i < 6; i++) {
            y.addStand(i < 4 ? i % 2 : 2, i != 4);
        }
        Check.addOf(y, 2, 2, 0, 420);
        c.same("step 3 the last one of six, for the largest from beyond the border", parked(y, 0), "490,5");
    }

    private static void standsInLine() {
        RunwayLoom x = arrivals(1, 1, 419);
        c.same("step 3 the first one that landed gets the lowest", "" + x.standOf(1) + x.standOf(0), "01");
        RunwayLoom y = standTaken(650);
        Check.add(y, 2, 0, 546);
        Check.add(y, 1, 0, 540);
        c.same("step 3 by the minute of landing: ended without one, then the first one in line, then none",
                parked(y, 1) + ' ' + parked(y, 4) + ' ' + parked(y, 3), "645,NoSuchElement 651,0 671,NoSuchElement");
    }

    private static void standsOfAnotherRun() {
        RunwayLoom x = Check.outAndBack();
        c.same("step 3 all stands are free at first", parked(x, 1), "590,0");
        x.waitFor(0, 5);
        c.same("step 3 and again, as the day is run anew", parked(x, 1), "590,0");
        Check.add(x, 1, 0, 520);
        c.same("step 3 one stand for two", parked(x, 2), "647,NoSuchElement");
        x.addStand(1, false);
        c.same("6 a stand that is added counts at once", parked(x, 2), "592,1");
        RunwayLoom y = new RunwayLoom();
        y.addStand(1, true);
        Check.add(y, 1, 0, 420);
        Check.add(y, 1, 0, 500);
        c.same("step 3 the first one keeps it", parked(y, 0) + ' ' + parked(y, 1), "490,0 625,NoSuchElement");
        y.hold(0, 240);
        c.same("step 3 and does not, as it comes later", parked(y, 0) + ' ' + parked(y, 1), "785,NoSuchElement 570,0");
    }

    private static void messagesOfAnotherRun() {
        for (int first = 0; first <= 1; first++) {
            RunwayLoom x = new RunwayLoom();
            Check.add(x, 0, 1, 410);
            for (int i = 0; i < 2; i++) {
                boolean isLater = i != first;
                x.tell('h', 0, isLater ? 50 : 20, isLater ? 200 : 100, isLater ? 440 : 300);
            }
            c.same("step 1 what comes later is not done yet", minute(x, 0, 'D'), 430);
            x.waitFor(0, 5);
            c.same("step 1 nor is it as the day is run anew", minute(x, 0, 'D'), 430);
        }
    }

    private static void minutesInTheLog() {
        int[] minutes = {0, 1, 9, 10, 11, 99, 100, 101, 999, 1000, 1001, 1010, 1100, 1399};
        for (int comes : minutes) {
            RunwayLoom x = new RunwayLoom();
            Check.add(x, 0, 1, 1439);
            x.tell('x', 0, 0, 0, comes);
            c.same("32 the minute " + comes, Check.log(x), comes + "x0;");
            c.same("31 the minute " + comes, x.logLength(), String.valueOf(comes).length() + 3);
        }
        RunwayLoom ten = Check.home();
        for (int i = 0; i < 10; i++) {
            ten.addFlight(0, 1, 420, 0, 0);
            ten.cancel(i);
        }
        c.same("32 the numbers of ten flights", Check.log(ten), "0x0;0x1;0x2;0x3;0x4;0x5;0x6;0x7;0x8;0x9;");
    }
}
