/** Step 4, groups and bags at the minute or the number that the document names, and at both its neighbours. */
public final class DoorTest {
    private static final Check c = new Check();

    public static void main(String[] args) {
        tooLate();
        flightsAhead();
        elsewhere();
        turns();
        reports();
        pausesOfCrews();
        waits();
        whoIsAwaited();
        presence();
        familiesOfCrews();
        limitsOfCrews();
        limitsOfLandings();
        hoursOfFlying();
        maintenance();
        faults();
        ordersOfLetters();
        seats();
        classes();
        bagsLeftBehind();
        bagsWithoutSeats();
        lateBags();
        standsOfShutDoors();
        secondFlights();
        c.end("DoorTest");
    }

    private static String minute(RunwayLoom x, int flight, char event) {
        return Check.outcome(() -> x.minuteOf(flight, event));
    }

    /** One flight out of a crew that reports at a minute. */
    private static RunwayLoom reported(int report, int off) {
        RunwayLoom x = new RunwayLoom();
        x.addAircraft(1, 0, 30, 60, 900, 9);
        x.addCrew(0, report, 7, true);
        x.addFlight(0, 1, off, 0, 0);
        return x;
    }

    private static void tooLate() {
        c.same("step 4 l: 300 minutes behind the minute off",
                Check.each(report -> Check.log(reported(report, 420)).substring(0, 6), 673, 674, 675, 676),
                "718D0; 719D0; 720l0; 720l0;");
        c.same("step 4 l: not behind the due", Check.each(hold -> {
            RunwayLoom x = reported(675, 420);
            x.hold(0, hold);
            return Check.log(x);
        }, 0, 1, 240), "720l0; 720l0; 720l0;");
        RunwayLoom ended = Check.outAndBack();
        ended.addFlight(1, 0, 260, 0, 0);
        c.same("step 4 l goes ahead of o, and of all waiting", Check.log(ended, 2), "260o2;");
        RunwayLoom x = reported(0, 1439);
        c.same("step 4 k, in the last minute off", Check.log(x), "1439k0;");
    }

    /** Flight 1 of the same aircraft and crew is off at a minute; flight 0 ends elsewhere at 485. */
    private static RunwayLoom behind(int off) {
        RunwayLoom x = new RunwayLoom();
        x.addAircraft(1, 0, 20, 60, 900, 9);
        x.addCrew(0, 360, 7, true);
        x.addFlight(0, 1, 420, 0, 0);
        x.addFlight(0, 1, off, 0, 0);
        return x;
    }

    private static void flightsAhead() {
        c.same("step 4 it goes on waiting till the one ahead has ended, in that minute, too",
                Check.each(off -> Check.log(behind(off), 1), 421, 484, 485, 486), "485o1; 485o1; 485o1; 486o1;");
        RunwayLoom x = behind(430);
        x.ice(0, 1999);
        x.setPads(0);
        c.same("step 4 it goes on waiting for one that stays, till it is too late", Check.log(x), "420D0;730l1;");
        RunwayLoom y = behind(430);
        y.tell('x', 0, 0, 5, 420);
        c.same("step 4 one ahead that is cancelled then is not awaited", Check.log(y), "420x0;430D1;435T1;495E1;");
        RunwayLoom z = behind(430);
        z.hold(0, 60);
        z.tell('x', 0, 0, 5, 470);
        c.same("step 4 one ahead that is cancelled later is awaited till then", Check.log(z),
                "470x0;470D1;475T1;535E1;");
        RunwayLoom w = Check.outAndBack();
        w.addFlight(0, 2, 580, 0, 0);
        c.same("step 4 one that has landed and waits is not ended", Check.log(w, 2), "620D2;625T2;685E2;");
    }

    private static void elsewhere() {
        for (int aircraft = 0; aircraft <= 3; aircraft++) {
            for (int crew = 0; crew <= 3; crew++) {
                RunwayLoom x = new RunwayLoom();
                x.addAircraft(1, aircraft, 30, 60, 900, 9);
                x.addCrew(crew, 360, 7, true);
                x.addFlight(2, 0, 420, 0, 0);
                c.same("step 4 o: the aircraft at " + aircraft + ", the crew at " + crew, x.cause(0),
                        aircraft == 2 && crew == 2 ? '-' : 'o');
            }
        }
    }

    /** Flight 0 ends elsewhere at 485; flight 1 goes back with the same aircraft, and a crew that is there. */
    private static String back(int turn, int off) {
        RunwayLoom x = new RunwayLoom();
        x.addAircraft(1, 0, turn, 60, 900, 9);
        x.addCrew(0, 360, 7, true);
        x.addCrew(1, 360, 7, true);
        x.addFlight(0, 1, 420, 0, 0);
        x.addFlight(1, 0, off, 0, 1);
        return minute(x, 1, 'D');
    }

    private static void turns() {
        c.same("step 4 the end plus a turn of 20",
                Check.each(off -> back(20, off), 486, 504, 505, 506), "505 505 505 506");
        c.same("step 4 the end plus a turn of 90", Check.each(off -> back(90, off), 574, 575, 576), "575 575 576");
        c.same("step 4 turns", Check.each(turn -> back(turn, 500), 20, 21, 89, 90), "505 506 574 575");
        RunwayLoom x = new RunwayLoom();
        x.addAircraft(1, 0, 90, 60, 900, 9);
        x.addCrew(0, 0, 7, true);
        x.addFlight(0, 1, 45, 0, 0);
        c.same("step 4 no turn if it did not fly", minute(x, 0, 'D'), 45);
        RunwayLoom home = new RunwayLoom();
        home.addAircraft(1, 1, 40, 60, 900, 9);
        home.addCrew(1, 360, 7, true);
        home.addStand(1, true);
        home.addFlight(1, 0, 420, 0, 0);
        home.addFlight(0, 1, 500, 0, 0);
        c.same("step 4 from the end, not from the landing", minute(home, 1, 'D'), 530);
    }

    private static void reports() {
        c.same("step 4 the report plus 45",
                Check.each(off -> minute(reported(400, off), 0, 'D'), 400, 444, 445, 446), "445 445 445 446");
        c.same("step 4 the first and the last report",
                Check.each(report -> minute(reported(report, Math.min(1439, report)), 0, 'D'), 0, 1, 1438, 1439),
                "45 46 1483 1484");
    }

    /** Flight 0 ends elsewhere at 485; flight 1 goes back with the same crew, and an aircraft that is there. */
    private static RunwayLoom crewBack(int off) {
        RunwayLoom x = new RunwayLoom();
        x.addAircraft(1, 0, 90, 60, 900, 9);
        x.addAircraft(1, 1, 90, 60, 900, 9);
        x.addCrew(0, 360, 7, true);
        x.addFlight(0, 1, 420, 0, 0);
        x.addFlight(1, 0, off, 1, 0);
        return x;
    }

    private static void pausesOfCrews() {
        c.same("step 4 the end of the crew's last flight plus 15",
                Check.each(off -> minute(crewBack(off), 1, 'D'), 486, 499, 500, 501), "500 500 500 501");
    }

    /** Flight 0 comes home from an airport and ends at 490; its group goes on to another one with flight 1. */
    private static RunwayLoom connection(int airport, int next, int off, int wait) {
        RunwayLoom x = new RunwayLoom();
        x.addStand(2, true);
        Check.add(x, airport, 0, 420);
        Check.add(x, 0, next, off);
        x.waitFor(1, wait);
        x.addGroup(0, 1, 10, 1, true);
        return x;
    }

    private static void waits() {
        c.same("step 4 ahead of its due plus its wait",
                Check.each(wait -> minute(connection(1, 1, 500, wait), 1, 'D'), 0, 1, 18, 19, 20, 21, 60),
                "500 501 518 519 520 520 520");
        c.same("step 4 on board just if it waits till then",
                Check.each(wait -> connection(1, 1, 500, wait).lastOf(0), 19, 20, 21), "0 1 1");
        c.same("step 4 the most wait",
                Check.each(off -> minute(connection(1, 1, off, 60), 1, 'D'), 458, 459, 460, 461), "518 519 520 520");
        c.same("step 4 the due, not the minute off", Check.each(hold -> {
            RunwayLoom x = connection(1, 1, 450, 40);
            x.hold(1, hold);
            return minute(x, 1, 'D');
        }, 28, 29, 30, 31), "518 519 520 520");
        c.same("step 4 a due by a message, too", Check.each(hold -> {
            RunwayLoom x = connection(1, 1, 450, 40);
            x.tell('h', 1, hold, 5, 455);
            return minute(x, 1, 'D');
        }, 28, 29, 30, 31), "518 519 520 520");
    }

    private static void whoIsAwaited() {
        RunwayLoom first = new RunwayLoom();
        Check.add(first, 1, 0, 480);
        Check.add(first, 0, 1, 430);
        first.addStand(1, true);
        first.waitFor(1, 60);
        first.addGroup(0, 1, 10, 1, true);
        c.same("step 4 a group that is to take another one first is not awaited", minute(first, 1, 'D'), 430);
        RunwayLoom two = connection(1, 1, 500, 60);
        Check.add(two, 2, 0, 420);
        two.addGroup(2, 1, 10, 1, true);
        two.addStand(2, true);
        c.same("step 4 all of them are awaited", "" + minute(two, 1, 'D') + two.lastOf(0) + two.lastOf(1), "53711");
        RunwayLoom nobody = new RunwayLoom();
        Check.add(nobody, 0, 1, 420);
        nobody.waitFor(0, 60);
        c.same("step 4 there is nobody to be awaited", minute(nobody, 0, 'D'), 420);
        for (int i = 0; i < 12; i++) {
            nobody.addGroup(0, -1, 1 + i, i % 3, true);
        }
        c.same("step 4 twelve groups that are there", minute(nobody, 0, 'D'), 420);
        RunwayLoom gone = connection(1, 1, 500, 60);
        gone.tell('x', 0, 0, 5, 415);
        c.same("step 4 a stranded group is not awaited", minute(gone, 1, 'D'), 500);
        RunwayLoom never = connection(1, 1, 500, 60);
        never.fly(1, 0, 300);
        never.fly(0, 1, 300);
        c.same("step 4 a group in the air is awaited just as long", minute(never, 1, 'D'), 560);
    }

    private static String onBoard(int airport, int next, int... minutes) {
        return Check.each(minute -> connection(airport, next, 490 + minute, 0).lastOf(0), minutes);
    }

    private static void presence() {
        for (int airport = 1; airport <= 3; airport++) {
            for (int next = 1; next <= 3; next++) {
                boolean isFar = airport > 1 || next > 1;
                c.same("present at home, from " + airport + " to " + next, onBoard(airport, next, 29, 30, 31, 44, 45, 46),
                        isFar ? "0 0 0 0 1 1" : "0 1 1 1 1 1");
            }
            int away = airport;
            c.same("present at " + airport, Check.each(minute -> {
                RunwayLoom x = new RunwayLoom();
                Check.add(x, 0, away, 420);
                Check.add(x, away, 0, 485 + minute);
                x.addGroup(0, 1, 10, 1, true);
                return x.lastOf(0);
            }, 29, 30, 31, 44, 45, 46), away > 1 ? "0 0 0 0 1 1" : "0 1 1 1 1 1");
        }
    }

    private static void familiesOfCrews() {
        for (int families = 1; families <= 7; families++) {
            for (int family = 0; family <= 2; family++) {
                RunwayLoom x = new RunwayLoom();
                x.addAircraft(family, 0, 30, 60, 900, 9);
                x.addCrew(0, 360, families, true);
                x.addFlight(0, 1, 420, 0, 0);
                c.same("step 4 k: family " + family + " of " + families, x.cause(0),
                        (families & 1 << family) == 0 ? 'k' : '-');
            }
        }
    }

    private static char causeOfCrew(int report, boolean isRested, int off) {
        RunwayLoom x = new RunwayLoom();
        x.addAircraft(1, 0, 30, 60, 900, 9);
        x.addCrew(0, report, 7, isRested);
        x.addFlight(0, 1, off, 0, 0);
        return x.cause(0);
    }

    private static void limit(int report, boolean isRested, int minutes) {
        int last = report + minutes - 70;
        c.same("step 4 k: a report at " + report + ", a limit of " + minutes,
                Check.each(off -> causeOfCrew(report, isRested, off), last - 1, last, last + 1), "- - k");
    }

    private static void limitsOfCrews() {
        for (int report : new int[] {0, 358, 359, 840, 841}) {
            limit(report, true, 600);
            limit(report, false, 540);
        }
        for (int report : new int[] {360, 361, 838, 839}) {
            limit(report, true, 660);
            limit(report, false, 600);
        }
    }

    /** Some flights out and back; the last one of them is off at a minute. */
    private static char causeOfLast(int landings, int off, int cancelled) {
        RunwayLoom x = new RunwayLoom();
        x.addAircraft(1, 0, 20, 60, 2000, 20);
        x.addCrew(0, 360, 7, true);
        x.addStand(1, true);
        x.fly(0, 1, 40);
        for (int i = 0; i < cancelled; i++) {
            x.cancel(x.addFlight(0, 1, 410 + i, 0, 0));
        }
        for (int i = 1; i < landings; i++) {
            x.addFlight((i + 1) % 2, i % 2, 420 + 75 * (i - 1), 0, 0);
        }
        return x.cause(x.addFlight((landings + 1) % 2, landings % 2, off, 0, 0));
    }

    private static void limitsOfLandings() {
        int[] limits = {660, 660, 630, 600, 570, 540};
        for (int i = 0; i < limits.length; i++) {
            int landings = i + 1;
            int last = 360 + limits[i] - 50;
            c.same("step 4 k: landing " + landings,
                    Check.each(off -> causeOfLast(landings, off, 0), last - 1, last, last + 1), "- - k");
            c.same("step 4 k: landing " + landings + ", others were cancelled",
                    Check.each(off -> causeOfLast(landings, off, 2), last - 1, last, last + 1), "- - k");
        }
    }

    private static void hoursOfFlying() {
        c.same("step 4 k: the flying time counts", Check.each(flying -> {
            RunwayLoom x = reported(360, 720);
            x.fly(0, 1, flying);
            return x.cause(0);
        }, 289, 290, 291), "- - k");
        c.same("step 4 k: the minute counts in which the doors shut, not the minute off", Check.each(hold -> {
            RunwayLoom x = reported(360, 900);
            x.hold(0, hold);
            return x.cause(0);
        }, 49, 50, 51), "h h k");
    }

    private static char causeOfPlane(int minutes, int landings, int flying) {
        RunwayLoom x = new RunwayLoom();
        x.addAircraft(1, 0, 30, 60, minutes, landings);
        x.addCrew(0, 360, 7, true);
        x.addFlight(0, 1, 420, 0, 0);
        x.fly(0, 1, flying);
        return x.cause(0);
    }

    private static String causesOfPlane(int minutes, int landings) {
        RunwayLoom x = new RunwayLoom();
        x.addAircraft(1, 0, 20, 60, minutes, landings);
        x.addCrew(0, 360, 7, true);
        x.addStand(1, true);
        x.fly(0, 1, 40);
        for (int i = 0; i < 4; i++) {
            x.addFlight(i % 2, 1 - i % 2, 420 + 80 * i, 0, 0);
        }
        return "" + x.cause(0) + x.cause(1) + x.cause(2) + x.cause(3);
    }

    private static void maintenance() {
        c.same("step 4 m: the minutes left", Check.each(minutes -> causeOfPlane(minutes, 9, 60), 0, 59, 60, 61), "m m - -");
        c.same("step 4 m: the flying time", Check.each(flying -> causeOfPlane(60, 9, flying), 30, 59, 60, 61), "- - - m");
        c.same("step 4 m: the landings left", Check.each(landings -> causeOfPlane(900, landings, 60), 0, 1, 2), "m - -");
        c.same("step 4 m: each take-off takes minutes off",
                Check.each(minutes -> causesOfPlane(minutes, 9), 39, 40, 79, 80, 119, 120, 159, 160),
                "momo -mom -mom --mo --mo ---m ---m ----");
        c.same("step 4 m: each take-off takes a landing off",
                Check.each(landings -> causesOfPlane(900, landings), 0, 1, 2, 3, 4),
                "momo -mom --mo ---m ----");
    }

    private static void faults() {
        for (int fault = 0; fault <= 3; fault++) {
            RunwayLoom x = new RunwayLoom();
            Check.add(x, 0, 2, 420);
            Check.add(x, 2, 0, 420);
            x.fault(0, fault);
            x.fault(1, fault);
            c.same("step 4 f: to where it leads, not from there: " + fault, "" + x.cause(0) + x.cause(1),
                    "" + (fault == 2 ? 'f' : '-') + (fault == 0 ? 'f' : '-'));
        }
    }

    private static RunwayLoom unfit(int report, int families, int minutes, boolean isFaulty) {
        RunwayLoom x = new RunwayLoom();
        x.addAircraft(1, 0, 30, 60, minutes, 9);
        x.addCrew(0, report, families, true);
        x.addFlight(0, 1, 420, 0, 0);
        if (isFaulty) {
            x.fault(0, 1);
        }
        return x;
    }

    private static void ordersOfLetters() {
        c.same("step 4 k, m, f", Check.log(unfit(360, 1, 0, true)), "420k0;");
        c.same("step 4 k, f", Check.log(unfit(360, 1, 900, true)), "420k0;");
        c.same("step 4 k, m", Check.log(unfit(360, 1, 0, false)), "420k0;");
        c.same("step 4 m, f", Check.log(unfit(360, 2, 0, true)), "420m0;");
        c.same("step 4 f", Check.log(unfit(360, 2, 900, true)), "420f0;");
        c.same("step 4 k just behind the waiting", Check.log(unfit(400, 1, 0, true)), "445k0;");
        c.same("step 4 l ahead of k", Check.log(unfit(700, 1, 0, true)), "720l0;");
        RunwayLoom x = unfit(700, 1, 0, true);
        x.addFlight(1, 0, 430, 0, 0);
        c.same("step 4 o just behind the flights ahead, but ahead of the report", Check.log(x), "720l0;720o1;");
        RunwayLoom y = unfit(360, 1, 0, true);
        y.addFlight(1, 0, 400, 0, 0);
        c.same("step 4 o ahead of all others", Check.log(y), "400o1;420k0;");
    }

    private static String boarded(RunwayLoom x, int groups) {
        StringBuilder text = new StringBuilder();
        for (int g = 0; g < groups; g++) {
            text.append(x.isStranded(g) ? 'b' : 'o');
        }
        return text.toString();
    }

    private static RunwayLoom withSeats(int seats, int... people) {
        RunwayLoom x = new RunwayLoom();
        x.addAircraft(1, 0, 30, seats, 900, 9);
        x.addCrew(0, 360, 7, true);
        x.addFlight(0, 1, 420, 0, 0);
        for (int each : people) {
            x.addGroup(0, -1, each, 1, true);
        }
        return x;
    }

    private static void seats() {
        c.same("step 4 seats for all of one group", Check.each(people -> boarded(withSeats(40, people), 1), 39, 40, 41),
                "o o b");
        c.same("step 4 seats that are left",
                Check.each(people -> boarded(withSeats(40, 15, people), 2), 1, 24, 25, 26), "oo oo oo ob");
        c.same("step 4 one group without seats keeps none of them",
                Check.each(people -> boarded(withSeats(40, 15, 26, people), 3), 24, 25, 26), "obo obo obb");
        c.same("step 4 one seat", Check.each(people -> boarded(withSeats(1, people, 1), 2), 1, 2), "ob bo");
        c.same("step 4 the most seats", Check.each(people ->
                boarded(withSeats(300, 50, 50, 50, 50, 50, people, 1), 7), 48, 49, 50), "ooooooo ooooooo oooooob");
        RunwayLoom none = withSeats(40);
        c.same("step 4 nobody at all", Check.log(none), "420D0;425T0;485E0;");
    }

    private static void classes() {
        for (int rank = 0; rank <= 2; rank++) {
            RunwayLoom x = withSeats(20, 11);
            x.addGroup(0, -1, 10, rank, true);
            c.same("step 4 by class, then by numbers: 1 and " + rank, boarded(x, 2), rank == 0 ? "bo" : "ob");
        }
        RunwayLoom x = withSeats(20);
        for (int rank = 2; rank >= 0; rank--) {
            x.addGroup(0, -1, 10, rank, true);
            x.addGroup(0, -1, 6, rank, true);
        }
        c.same("step 4 three classes", boarded(x, 6), "bbbboo");
    }

    private static int readyBehind(int airport, int next, int minutes) {
        RunwayLoom x = connection(airport, next, 490 + minutes, 0);
        return x.minuteOf(1, 'T') - x.minuteOf(1, 'D');
    }

    private static void bagsLeftBehind() {
        c.same("step 4 a bag is there 25 minutes behind the end",
                Check.each(minutes -> readyBehind(1, 1, minutes), 23, 24, 25, 26, 29, 30), "5 5 15 15 15 5");
        c.same("step 4 50 minutes from beyond the border",
                Check.each(minutes -> readyBehind(2, 1, minutes), 24, 25, 26, 44, 45), "5 5 5 5 5");
        c.same("step 4 10 minutes for each bag", Check.each(groups -> {
            RunwayLoom x = withSeats(1);
            for (int i = 0; i < groups; i++) {
                x.addGroup(0, -1, 2, i % 3, true);
            }
            return x.minuteOf(0, 'T');
        }, 0, 1, 2, 11, 12), "425 435 445 535 545");
        c.same("step 4 not for each of the people",
                Check.each(people -> withSeats(1, people).minuteOf(0, 'T'), 1, 2, 50), "425 435 435");
    }

    /** No seats are left for the group, which is present; its bag may be there. */
    private static int readyWithoutSeats(int airport, int next, int minutes) {
        RunwayLoom x = connection(airport, next, 490 + minutes, 0);
        x.addGroup(1, -1, 31, 0, true);
        return x.minuteOf(1, 'T') - x.minuteOf(1, 'D');
    }

    private static void bagsWithoutSeats() {
        c.same("step 4 a bag of a group without seats, from beyond the border",
                Check.each(minutes -> readyWithoutSeats(3, 1, minutes), 44, 45, 49, 50, 51), "5 5 5 15 15");
        c.same("step 4 to beyond the border",
                Check.each(minutes -> readyWithoutSeats(1, 3, minutes), 44, 45, 49, 50, 51), "5 5 5 15 15");
        c.same("step 4 on this side",
                Check.each(minutes -> readyWithoutSeats(1, 1, minutes), 24, 25, 26, 30, 31), "5 15 15 15 15");
    }

    private static void lateBags() {
        c.same("27 from beyond the border", Check.each(minutes ->
                connection(2, 1, 490 + minutes, 0).lateBags(), 44, 45, 46, 48, 49, 50, 51), "0 1 1 1 1 0 0");
        c.same("27 to beyond the border", Check.each(minutes ->
                connection(1, 2, 490 + minutes, 0).lateBags(), 44, 45, 46, 48, 49, 50, 51), "0 1 1 1 1 0 0");
        c.same("27 on this side", Check.each(minutes ->
                connection(1, 1, 490 + minutes, 0).lateBags(), 24, 25, 29, 30, 31), "0 0 0 0 0");
        c.same("27 how often", Check.each(groups -> {
            RunwayLoom x = connection(2, 1, 537, 0);
            for (int i = 1; i < groups; i++) {
                x.addGroup(0, 1, 2, i % 3, true);
            }
            return x.lateBags();
        }, 1, 2, 3, 12), "1 2 3 12");
        RunwayLoom x = connection(2, 1, 500, 60);
        c.same("27 one that was awaited", "" + x.minuteOf(1, 'D') + ' ' + x.lateBags(), "535 1");
    }

    private static void standsOfShutDoors() {
        RunwayLoom x = new RunwayLoom();
        x.addStand(1, true);
        int first = Check.add(x, 1, 0, 405);
        Check.add(x, 1, 0, 520);
        x.addFlight(0, 1, 560, first, first);
        x.ice(0, 1999);
        x.setPads(0);
        c.same("step 4 its stand is free as its doors are shut, though it stays", "" + x.state(2) + x.standOf(1), "d0");
        x.cancel(2);
        c.same("step 4 a cancelled one keeps its stand", Check.log(x, 1), "520D1;525T1;585L1;645E1;");
    }

    private static void secondFlights() {
        c.same("a second flight that is cancelled behind the boarding, at it, and ahead of it", Check.each(comes -> {
            RunwayLoom x = connection(1, 1, 560, 0);
            Check.add(x, 0, 1, 560);
            x.tell('x', 1, 0, 5, comes);
            return "" + x.lastOf(0) + x.cause(1) + x.cause(2);
        }, 419, 420, 421, 559, 560, 561), "2x- 2x- 2x- 2x- 0x- 1--");
        c.same("booked anew in the minute of the boarding, or of the cancelling behind it", Check.each(comes -> {
            RunwayLoom x = connection(1, 1, 560, 0);
            x.waitFor(Check.add(x, 0, 1, 460), 60);
            x.tell('x', 1, 0, 5, comes);
            return "" + x.lastOf(0) + x.minuteOf(2, 'D');
        }, 419, 420, 421, 459, 460, 461), "2520 2520 2520 2520 0460 0460");
        RunwayLoom ahead = connection(1, 1, 420, 0);
        Check.add(ahead, 0, 1, 560);
        c.same("the doors of the second one shut behind, in the minute of the boarding: it stays behind",
                "" + ahead.lastOf(0) + ' ' + ahead.minuteOf(1, 'T'), "2 425");
        RunwayLoom behind = new RunwayLoom();
        behind.addStand(1, true);
        Check.add(behind, 0, 1, 420);
        Check.add(behind, 1, 0, 420);
        Check.add(behind, 0, 1, 560);
        behind.addGroup(1, 0, 10, 1, true);
        c.same("the doors of the second one shut ahead, in that minute: it counts as cancelled",
                "" + behind.lastOf(0) + ' ' + behind.minuteOf(0, 'T'), "2 425");
    }
}
