/** The steps of a minute, and promises 19 to 23, 25 to 28, 31 and 32: what is asked of flights and groups. */
public final class DayTest {
    private static final Check c = new Check();

    public static void main(String[] args) {
        logOfADay();
        states();
        minutes();
        messages();
        outdatedMessages();
        landing();
        stands();
        standsThatAreAwaited();
        doorsWait();
        doorsAwaitGroups();
        cancelledAtDoors();
        hoursOfCrews();
        maintenance();
        boarding();
        bags();
        ice();
        slots();
        runway();
        bookedAnew();
        secondFlights();
        causes();
        causesOfEqualMinutes();
        roots();
        c.end("DayTest");
    }

    private static void logOfADay() {
        RunwayLoom x = Check.outAndBack();
        c.same("31 length", x.logLength(), 42);
        c.same("32 whole", Check.log(x), "420D0;425T0;485E0;520D1;525T1;585L1;590E1;");
        c.same("32 first", x.logAt(0), '4');
        c.same("32 last", x.logAt(41), ';');
        c.index("32 -1", () -> x.logAt(-1));
        c.index("32 the length", () -> x.logAt(42));
        c.index("32 far behind", () -> x.logAt(Integer.MAX_VALUE));
        RunwayLoom early = new RunwayLoom();
        early.addAircraft(0, 0, 20, 10, 900, 9);
        early.addCrew(0, 0, 7, true);
        early.addFlight(0, 1, 0, 0, 0);
        early.addFlight(1, 0, 1300, 0, 0);
        c.same("32 minutes of one, two, three and four signs", Check.log(early), "45D0;50T0;110E0;1300k1;");
        early.cancel(0);
        c.same("32 told ahead", Check.log(early), "0x0;1300o1;");
    }

    private static void states() {
        RunwayLoom x = Check.outAndBack();
        c.same("19 ended", x.state(0), 'e');
        c.index("19 flight -1", () -> x.state(-1));
        c.index("19 flight 2", () -> x.state(2));
        x.cancel(0);
        c.same("19 cancelled", x.state(0), 'x');
        RunwayLoom frozen = Check.outAndBack();
        frozen.ice(0, 1999);
        frozen.setPads(0);
        c.same("19 shut", frozen.state(0), 'd');
        c.same("19 behind one that is shut", frozen.state(1), 'x');
        RunwayLoom late = Check.outAndBack();
        late.slot(0, 1999);
        c.same("19 in the air", late.state(0), 'a');
        c.same("19 took off", late.minuteOf(0, 'T'), 1994);
        c.missing("19 but did not end", () -> late.minuteOf(0, 'E'));
        RunwayLoom waiting = new RunwayLoom();
        waiting.addAircraft(1, 1, 30, 60, 900, 9);
        waiting.addCrew(1, 1439, 7, true);
        waiting.addFlight(1, 0, 1439, 0, 0);
        waiting.hold(0, 240);
        waiting.fly(1, 0, 290);
        c.same("19 landed and waits", waiting.state(0), 'w');
        c.same("19 the log of it", Check.log(waiting), "1679D0;1684T0;1974L0;");
    }

    private static void minutes() {
        RunwayLoom x = Check.outAndBack();
        c.same("20 shut", x.minuteOf(1, 'D'), 520);
        c.same("20 took off", x.minuteOf(1, 'T'), 525);
        c.same("20 landed", x.minuteOf(1, 'L'), 585);
        c.same("20 ended", x.minuteOf(1, 'E'), 590);
        c.missing("20 no pad", () -> x.minuteOf(1, 'P'));
        c.missing("20 no landing elsewhere", () -> x.minuteOf(0, 'L'));
        c.index("20 flight -1", () -> x.minuteOf(-1, 'D'));
        c.index("20 flight 2, ahead of the event", () -> x.minuteOf(2, 'M'));
        c.argument("20 M", () -> x.minuteOf(0, 'M'));
        c.argument("20 x", () -> x.minuteOf(0, 'x'));
        c.argument("20 d", () -> x.minuteOf(0, 'd'));
        x.ice(400, 600);
        x.slot(0, 480);
        c.same("20 two pads", Check.log(x, 0), "420D0;425P0;456P0;475T0;535E0;");
        c.same("20 the last one of several", x.minuteOf(0, 'P'), 456);
        x.cancel(0);
        c.missing("20 of a cancelled one", () -> x.minuteOf(0, 'D'));
    }

    private static void messages() {
        RunwayLoom x = Check.outAndBack();
        x.hold(0, 10);
        x.tell('h', 0, 30, 100, 420);
        c.same("step 1 a hold becomes a number", x.minuteOf(0, 'D'), 450);
        RunwayLoom y = Check.outAndBack();
        y.tell('h', 0, 30, 100, 421);
        c.same("step 1 too late for the doors", y.minuteOf(0, 'D'), 420);
        RunwayLoom less = Check.outAndBack();
        less.hold(0, 60);
        less.tell('h', 0, 0, 100, 440);
        c.same("step 1 a hold that becomes less", less.minuteOf(0, 'D'), 440);
        RunwayLoom cut = Check.outAndBack();
        cut.tell('x', 0, 0, 100, 420);
        c.same("step 1 cancelled in its minute", Check.log(cut), "420x0;520o1;");
        RunwayLoom late = Check.outAndBack();
        late.tell('x', 0, 0, 100, 421);
        c.same("step 1 not scheduled any more", late.state(0), 'e');
        RunwayLoom broken = Check.outAndBack();
        broken.addFlight(0, 1, 700, 0, 0);
        broken.addFlight(0, 1, 700, 1, 1);
        broken.tell('f', 0, 0, 500, 600);
        c.same("step 1 the aircraft must not fly there then", "" + broken.cause(0) + broken.cause(2), "-f");
        c.same("step 1 another one may", broken.state(3), 'e');
    }

    private static void outdatedMessages() {
        RunwayLoom x = Check.outAndBack();
        x.tell('h', 0, 20, 200, 300);
        x.tell('h', 0, 50, 199, 301);
        c.same("step 1 what happened later was done", x.minuteOf(0, 'D'), 440);
        x.tell('h', 0, 60, 200, 302);
        c.same("step 1 what happened then, too, is done", x.minuteOf(0, 'D'), 480);
        x.tell('h', 0, 70, 150, 250);
        c.same("step 1 what came ahead is done ahead", x.minuteOf(0, 'D'), 480);
        x.tell('x', 0, 0, 5, 303);
        c.same("step 1 another kind", x.cause(0), 'x');
        RunwayLoom y = Check.outAndBack();
        y.tell('h', 0, 20, 100, 300);
        y.tell('h', 0, 50, 100, 300);
        y.tell('h', 1, 50, 10, 300);
        c.same("step 1 by their numbers", y.minuteOf(0, 'D'), 470);
        c.same("step 1 another flight", y.minuteOf(1, 'D'), 570);
    }

    private static void landing() {
        RunwayLoom x = new RunwayLoom();
        x.addStand(2, true);
        x.addStand(2, true);
        x.addStand(2, true);
        Check.addOf(x, 2, 1, 0, 421);
        Check.addOf(x, 0, 2, 0, 420);
        Check.addOf(x, 0, 3, 0, 421);
        c.same("step 2 by the minute, then by numbers, and apart", Check.log(x),
                "420D1;421D0;421D2;425T1;426T0;426T2;485L1;487L0;490E1;491L2;492E0;496E2;");
        RunwayLoom y = Check.outAndBack();
        y.turnRunway(576);
        c.same("step 2 the runway is closed for 10 minutes", y.minuteOf(1, 'L'), 586);
        RunwayLoom z = Check.outAndBack();
        z.turnRunway(575);
        c.same("step 2 and free then", z.minuteOf(1, 'L'), 585);
        RunwayLoom w = Check.outAndBack();
        w.turnRunway(485);
        c.same("step 2 elsewhere it is another one", w.minuteOf(0, 'E'), 485);
    }

    private static void stands() {
        RunwayLoom x = new RunwayLoom();
        x.addStand(0, true);
        x.addStand(2, false);
        x.addStand(1, true);
        Check.add(x, 1, 0, 420);
        Check.add(x, 2, 0, 440);
        c.same("21 not smaller, the lowest one", x.standOf(0), 1);
        c.same("21 with a border", x.standOf(1), 2);
        RunwayLoom y = new RunwayLoom();
        y.addStand(1, true);
        y.addStand(1, false);
        Check.add(y, 1, 0, 420);
        Check.add(y, 2, 0, 440);
        Check.add(y, 1, 0, 460);
        c.same("21 others may have a border, too", y.standOf(0), 0);
        c.missing("21 none with a border is free", () -> y.standOf(1));
        c.same("step 3 60 minutes behind the landing it ends", Check.log(y, 1), "440D1;445T1;505L1;565E1;");
        c.same("21 one without a border is", y.standOf(2), 1);
        c.index("21 flight -1", () -> y.standOf(-1));
        c.index("21 flight 3", () -> y.standOf(3));
        RunwayLoom z = Check.outAndBack();
        c.same("21 got one", z.standOf(1), 0);
        c.missing("21 elsewhere there are none", () -> z.standOf(0));
    }

    /** The only stand is that of an aircraft whose doors shut at a minute; flight 2 has landed at 595. */
    private static RunwayLoom standTaken(int shut) {
        RunwayLoom x = Check.outAndBack();
        Check.add(x, 1, 0, 530);
        x.addFlight(0, 1, shut, 0, 0);
        return x;
    }

    private static void standsThatAreAwaited() {
        RunwayLoom x = standTaken(640);
        c.same("step 3 free as doors have shut", Check.log(x, 2), "530D2;535T2;595L2;641E2;");
        c.same("21 it got that", x.standOf(2), 0);
        RunwayLoom y = standTaken(654);
        c.same("step 3 free in the 60th minute", y.minuteOf(2, 'E'), 655);
        c.same("21 it got that, too", y.standOf(2), 0);
        RunwayLoom z = standTaken(655);
        c.same("step 3 free just behind", z.minuteOf(2, 'E'), 655);
        c.missing("21 it got none", () -> z.standOf(2));
    }

    private static void doorsWait() {
        RunwayLoom x = Check.home();
        x.addFlight(0, 1, 420, 0, 0);
        x.addFlight(1, 0, 500, 0, 0);
        c.same("step 4 the turn", Check.log(x, 1), "515D1;520T1;580L1;585E1;");
        RunwayLoom y = new RunwayLoom();
        y.addAircraft(1, 0, 30, 60, 900, 9);
        y.addCrew(0, 400, 7, true);
        y.addFlight(0, 1, 420, 0, 0);
        c.same("step 4 the report", Check.log(y), "445D0;450T0;510E0;");
        RunwayLoom z = Check.home();
        z.addAircraft(1, 1, 30, 60, 900, 9);
        z.addFlight(0, 1, 420, 0, 0);
        z.addFlight(1, 0, 490, 2, 0);
        c.same("step 4 the crew's last flight", z.minuteOf(1, 'D'), 500);
        RunwayLoom cut = Check.home();
        cut.addAircraft(1, 0, 90, 60, 900, 9);
        cut.addFlight(0, 1, 420, 0, 0);
        cut.addFlight(0, 1, 421, 1, 1);
        cut.addFlight(0, 1, 430, 2, 1);
        cut.cancel(1);
        c.same("step 4 one ahead that is cancelled is not awaited", cut.minuteOf(2, 'D'), 430);
        RunwayLoom crew = Check.home();
        crew.addFlight(0, 1, 420, 0, 0);
        crew.addFlight(0, 1, 425, 1, 0);
        crew.hold(0, 10);
        c.same("step 4 one ahead of just the crew is awaited", Check.log(crew), "430D0;435T0;495E0;495o1;");
        RunwayLoom plane = Check.home();
        plane.addFlight(0, 1, 420, 0, 0);
        plane.addFlight(0, 1, 425, 0, 1);
        plane.hold(0, 10);
        c.same("step 4 one ahead of just the aircraft is awaited", Check.log(plane), "430D0;435T0;495E0;495o1;");
        RunwayLoom same = Check.home();
        same.addFlight(1, 0, 420, 0, 0);
        same.addFlight(0, 1, 420, 0, 0);
        c.same("step 4 of one minute off, the lower number is ahead", Check.log(same), "420o0;420D1;425T1;485E1;");
    }

    /** Flight 0 comes home from an airport at 490, and its group goes on with flight 1 of another aircraft. */
    private static RunwayLoom connection(int airport, int off, int wait) {
        RunwayLoom x = new RunwayLoom();
        x.addStand(2, true);
        Check.add(x, airport, 0, 420);
        Check.add(x, 0, 1, off);
        x.waitFor(1, wait);
        x.addGroup(0, 1, 10, 1, true);
        return x;
    }

    private static void doorsAwaitGroups() {
        RunwayLoom x = connection(1, 500, 60);
        c.same("step 4 till the group is present", Check.log(x, 1), "520D1;525T1;585E1;");
        c.same("25 it took it", x.lastOf(0), 1);
        RunwayLoom y = connection(1, 500, 19);
        c.same("step 4 as long as it waits", Check.log(y, 1), "519D1;534T1;594E1;");
        c.same("26 stays behind", y.isStranded(0), true);
        c.same("25 took the first one", y.lastOf(0), 0);
        RunwayLoom z = connection(1, 500, 20);
        c.same("step 4 just long enough", z.minuteOf(1, 'D'), 520);
        RunwayLoom far = connection(2, 500, 60);
        c.same("step 4 45 minutes from beyond the border", far.minuteOf(1, 'D'), 535);
        RunwayLoom held = connection(1, 500, 10);
        held.hold(1, 15);
        c.same("step 4 its due plus its wait", held.minuteOf(1, 'D'), 520);
    }

    private static void cancelledAtDoors() {
        RunwayLoom frozen = Check.outAndBack();
        frozen.ice(0, 1999);
        frozen.setPads(0);
        c.same("step 4 l, 300 minutes behind its minute off", Check.log(frozen), "420D0;820l1;");
        RunwayLoom both = new RunwayLoom();
        both.addAircraft(1, 0, 30, 60, 900, 9);
        both.addCrew(0, 1400, 7, true);
        both.addFlight(0, 1, 500, 0, 0);
        both.addFlight(1, 0, 500, 0, 0);
        c.same("step 4 l ahead of o", Check.log(both), "800l0;800l1;");
        RunwayLoom gone = Check.outAndBack();
        gone.cancel(0);
        c.same("step 4 o, the aircraft is elsewhere", Check.log(gone), "0x0;520o1;");
        RunwayLoom crew = Check.home();
        crew.addCrew(1, 1000, 1, true);
        crew.addFlight(0, 1, 420, 0, 2);
        c.same("step 4 o, the crew is elsewhere, ahead of its report and its families", Check.log(crew), "420o0;");
        RunwayLoom unfit = new RunwayLoom();
        unfit.addAircraft(2, 0, 30, 60, 0, 0);
        unfit.addCrew(0, 400, 3, true);
        unfit.addCrew(0, 400, 4, true);
        unfit.fault(0, 1);
        unfit.addFlight(0, 1, 420, 0, 0);
        unfit.addFlight(0, 1, 460, 0, 1);
        c.same("step 4 k ahead of m and f, but behind the report", Check.log(unfit), "445k0;460m1;");
        RunwayLoom broken = Check.outAndBack();
        broken.fault(0, 0);
        c.same("step 4 f", "" + broken.cause(0) + broken.cause(1), "-f");
    }

    private static void crewFlies(String what, int report, boolean isRested, int last) {
        for (int off = last; off <= last + 1; off++) {
            RunwayLoom x = new RunwayLoom();
            x.addAircraft(1, 0, 30, 60, 900, 9);
            x.addCrew(0, report, 7, isRested);
            x.addFlight(0, 1, off, 0, 0);
            c.same(what + " at " + off, x.cause(0), off == last ? '-' : 'k');
        }
    }

    private static void hoursOfCrews() {
        crewFlies("limit 660", 360, true, 950);
        crewFlies("limit 600, not rested", 360, false, 890);
        crewFlies("limit 600, reports ahead of 360", 359, true, 889);
        crewFlies("limit 660, reports at 839", 839, true, 1429);
        crewFlies("limit 600, reports at 840", 840, true, 1370);
        crewFlies("limit 540", 840, false, 1310);
        for (int off = 920; off <= 921; off++) {
            RunwayLoom x = Check.outAndBack();
            x.addFlight(0, 1, off, 0, 0);
            c.same("limit 630 for a third landing at " + off, x.cause(2), off == 920 ? '-' : 'k');
        }
        for (int off = 890; off <= 891; off++) {
            RunwayLoom x = Check.outAndBack();
            x.addFlight(0, 1, 620, 0, 0);
            x.addFlight(1, 0, off, 0, 0);
            c.same("limit 600 for a fourth landing at " + off, x.cause(3), off == 890 ? '-' : 'k');
        }
    }

    private static void maintenance() {
        for (int minutes = 119; minutes <= 120; minutes++) {
            for (int landings = 1; landings <= 2; landings++) {
                RunwayLoom x = new RunwayLoom();
                x.addAircraft(1, 0, 30, 60, minutes, landings);
                x.addCrew(0, 360, 7, true);
                x.addFlight(0, 1, 420, 0, 0);
                x.addFlight(1, 0, 520, 0, 0);
                boolean isFit = minutes == 120 && landings == 2;
                c.same("step 4 m: " + minutes + ", " + landings, "" + x.cause(0) + x.cause(1), isFit ? "--" : "-m");
            }
        }
        RunwayLoom none = new RunwayLoom();
        none.addAircraft(1, 0, 30, 60, 59, 5);
        none.addCrew(0, 360, 7, true);
        none.addFlight(0, 1, 420, 0, 0);
        none.fault(0, 1);
        c.same("step 4 m ahead of f", none.cause(0), 'm');
    }

    private static void boarding() {
        RunwayLoom x = Check.outAndBack();
        x.addGroup(0, -1, 50, 1, true);
        x.addGroup(0, -1, 20, 0, true);
        x.addGroup(0, -1, 10, 1, true);
        x.addGroup(0, -1, 25, 2, true);
        x.addGroup(0, -1, 30, 2, true);
        x.addGroup(0, -1, 5, 2, true);
        StringBuilder behind = new StringBuilder();
        for (int g = 0; g < 6; g++) {
            behind.append(x.isStranded(g) ? 'b' : 'o');
        }
        c.same("step 4 by class, then by numbers, if there are seats for all", behind.toString(), "booobo");
        c.same("step 4 10 minutes for each bag of those behind", x.minuteOf(0, 'T'), 445);
        c.same("25 on board", x.lastOf(1), 0);
        c.missing("25 took none", () -> x.lastOf(0));
        c.index("25 group -1", () -> x.lastOf(-1));
        c.index("25 group 6", () -> x.lastOf(6));
        c.index("26 group -1", () -> x.isStranded(-1));
        c.index("26 group 6", () -> x.isStranded(6));
    }

    private static void bags() {
        RunwayLoom x = connection(1, 514, 0);
        c.same("step 4 stays behind, its bag, too", Check.log(x, 1), "514D1;519T1;579E1;");
        RunwayLoom y = connection(1, 515, 0);
        c.same("step 4 its bag is there", Check.log(y, 1), "515D1;530T1;590E1;");
        RunwayLoom z = connection(2, 535, 0);
        c.same("27 on board, its bag is not", z.lateBags(), 1);
        c.same("25 on board", z.lastOf(0), 1);
        c.same("27 nothing is taken off board", z.minuteOf(1, 'T'), 540);
        c.same("27 its bag is just there", connection(2, 540, 0).lateBags(), 0);
        c.same("27 its bag is just not", connection(2, 539, 0).lateBags(), 1);
        RunwayLoom w = connection(2, 534, 0);
        c.same("27 not on board", w.lateBags(), 0);
        c.same("26 not on board", w.isStranded(0), true);
        c.same("27 without a border the bag is ahead", connection(1, 520, 0).lateBags(), 0);
        for (int off = 539; off <= 540; off++) {
            RunwayLoom full = connection(2, off, 0);
            full.addGroup(1, -1, 31, 0, true);
            c.same("step 4 no seats, its bag is there from 540 on", full.minuteOf(1, 'T'), off == 539 ? 544 : 555);
        }
    }

    private static void ice() {
        RunwayLoom x = Check.home();
        x.addFlight(0, 1, 420, 0, 0);
        x.addFlight(0, 1, 420, 1, 1);
        x.ice(400, 460);
        c.same("step 5 one pad", Check.log(x), "420D0;420D1;425P0;435P1;435T0;445T1;495E0;505E1;");
        x.setPads(2);
        c.same("step 5 two pads", Check.log(x), "420D0;420D1;425P0;425P1;435T0;437T1;495E0;497E1;");
        x.setPads(0);
        c.same("step 5 no pad, till there is no ice", Check.log(x), "420D0;420D1;461T0;463T1;521E0;523E1;");
        c.same("step 6 i", x.cause(1), 'i');
        RunwayLoom y = Check.outAndBack();
        y.ice(400, 600);
        y.slot(0, 460);
        c.same("step 6 left 20 minutes ago", Check.log(y, 0), "420D0;425P0;455T0;515E0;");
        y.slot(0, 461);
        c.same("step 5 left more than 20 minutes ago", Check.log(y, 0), "420D0;425P0;456P0;466T0;526E0;");
        RunwayLoom z = Check.outAndBack();
        z.ice(425, 425);
        c.same("step 6 on a pad, though the ice is gone", z.minuteOf(0, 'T'), 435);
        z.ice(426, 700);
        c.same("step 5 no ice yet", Check.log(z), "420D0;425T0;485E0;520D1;525T1;585L1;590E1;");
    }

    private static void slots() {
        RunwayLoom x = Check.outAndBack();
        x.slot(0, 431);
        c.same("step 6 ahead of the slot less 5", x.minuteOf(0, 'T'), 426);
        x.slot(0, 430);
        c.same("step 6 at the slot less 5", x.minuteOf(0, 'T'), 425);
        x.slot(0, 415);
        c.same("step 6 at the slot plus 10", x.minuteOf(0, 'T'), 425);
        c.same("28 none missed", x.missed(), 0);
        x.slot(0, 414);
        c.same("step 6 behind the slot plus 10", Check.log(x, 0), "420D0;425M0;440T0;500E0;");
        c.same("28 missed", x.missed(), 1);
        c.same("22 s", x.cause(0), 's');
        c.same("11 the slot that was given stays", x.slot(0, 0), 414);
        c.same("28 missed again from the start of the day", Check.log(x, 0), "420D0;425M0;440T0;500E0;");
        x.turnRunway(440);
        x.turnRunway(450);
        c.same("28 missed twice", Check.log(x, 0), "420D0;425M0;456M0;471T0;531E0;");
        c.same("28 two", x.missed(), 2);
        x.ice(420, 460);
        x.setPads(0);
        c.same("step 6 ice goes ahead of the slot", Check.log(x, 0), "420D0;461M0;476T0;536E0;");
    }

    private static void takeOffs(String what, int first, int second, int minute) {
        RunwayLoom x = new RunwayLoom();
        Check.addOf(x, first, 0, 1, 420);
        Check.addOf(x, second, 0, 1, 420);
        c.same(what, x.minuteOf(1, 'T'), minute);
    }

    private static void runway() {
        takeOffs("step 6 equal families", 1, 1, 427);
        takeOffs("step 6 one larger ahead", 1, 0, 428);
        takeOffs("step 6 two larger ahead", 2, 0, 429);
        takeOffs("step 6 smaller ahead", 0, 2, 427);
        RunwayLoom x = new RunwayLoom();
        Check.addOf(x, 2, 1, 0, 420);
        Check.addOf(x, 0, 0, 1, 481);
        c.same("step 6 behind a landing", "" + x.minuteOf(0, 'L') + ' ' + x.minuteOf(1, 'T'), "485 489");
        RunwayLoom y = Check.outAndBack();
        y.turnRunway(416);
        c.same("step 6 just closed", y.minuteOf(0, 'T'), 426);
        RunwayLoom z = Check.outAndBack();
        z.turnRunway(415);
        c.same("step 6 just free", z.minuteOf(0, 'T'), 425);
        RunwayLoom w = Check.outAndBack();
        w.turnRunway(520);
        c.same("step 6 elsewhere it is another one", w.minuteOf(1, 'T'), 525);
    }

    private static void bookedAnew() {
        RunwayLoom x = new RunwayLoom();
        Check.add(x, 0, 2, 420);
        Check.add(x, 0, 2, 600);
        Check.add(x, 0, 2, 500);
        Check.add(x, 0, 1, 450);
        Check.add(x, 0, 2, 500);
        x.addGroup(0, -1, 30, 2, true);
        x.addGroup(0, -1, 30, 1, true);
        x.addGroup(0, -1, 5, 0, false);
        x.addGroup(1, -1, 10, 0, true);
        x.tell('x', 0, 0, 100, 410);
        c.same("step 7 by class: due first", x.lastOf(1), 2);
        c.same("step 7 then the lowest number that has seats", x.lastOf(0), 4);
        c.same("step 7 no visa", x.isStranded(2), true);
        c.same("24 lateness from the first booking", x.lateness(1), 565 - 480);
        x.hold(2, 10);
        c.same("step 7 its due, not its minute off", x.lastOf(1), 4);
        c.same("step 7 the other one then", x.lastOf(0), 2);
        x.cancel(4);
        c.same("step 7 seats of groups that are booked count", x.lastOf(0), 1);
        c.same("step 7 40 of 40 seats", x.isStranded(0), false);
        x.addGroup(1, -1, 1, 0, true);
        c.same("step 7 41 of 40 seats", x.isStranded(0), true);
        c.missing("25 took none", () -> x.lastOf(0));
        RunwayLoom y = new RunwayLoom();
        Check.add(y, 0, 1, 420);
        Check.add(y, 0, 1, 460);
        y.addGroup(0, -1, 1, 0, false);
        y.cancel(0);
        c.same("step 7 without a visa on this side of the border", y.lastOf(0), 1);
    }

    private static void secondFlights() {
        RunwayLoom x = connection(1, 500, 0);
        int third = Check.add(x, 0, 1, 700);
        c.same("step 7 one that stayed behind", x.lastOf(0), third);
        x.cancel(1);
        c.same("a second flight that is cancelled ahead counts as cancelled at boarding", x.lastOf(0), third);
        RunwayLoom y = connection(1, 500, 0);
        Check.add(y, 0, 1, 415);
        Check.add(y, 0, 1, 430);
        y.cancel(1);
        c.same("what was scheduled at boarding is due first, and stays behind", y.lastOf(0), 0);
        c.same("and there is no other one then", y.isStranded(0), true);
        RunwayLoom z = connection(1, 500, 60);
        z.tell('x', 1, 0, 1, 450);
        int behind = Check.add(z, 0, 1, 460);
        z.waitFor(behind, 60);
        c.same("step 7 while it flies", z.lastOf(0), behind);
        c.same("step 4 it is awaited there", z.minuteOf(behind, 'D'), 520);
    }

    private static void causes() {
        RunwayLoom x = Check.outAndBack();
        c.same("22 in time", x.cause(0), '-');
        x.hold(0, 5);
        c.same("22 5 minutes", x.cause(0), '-');
        x.hold(0, 6);
        c.same("22 6 minutes", x.cause(0), 'h');
        x.hold(0, 60);
        c.same("22 the aircraft", x.cause(1), 'a');
        c.index("22 flight -1", () -> x.cause(-1));
        c.index("22 flight 2", () -> x.cause(2));
        x.ice(0, 1999);
        x.setPads(0);
        c.missing("22 neither took off nor was cancelled", () -> x.cause(0));
        c.missing("23 neither took off nor was cancelled", () -> x.root(0));
        c.same("22 l", x.cause(1), 'l');
        c.same("22 p", connection(1, 500, 60).cause(1), 'p');
        RunwayLoom held = connection(1, 500, 60);
        held.hold(1, 20);
        c.same("22 the group was not behind the due", held.cause(1), 'h');
        held.hold(1, 19);
        c.same("22 the group was just behind the due", held.cause(1), 'p');
        RunwayLoom far = connection(2, 500, 60);
        far.hold(1, 34);
        c.same("22 the group from beyond the border was, too", far.cause(1), 'p');
        far.hold(1, 35);
        c.same("22 it was not", far.cause(1), 'h');
        RunwayLoom late = new RunwayLoom();
        late.addAircraft(1, 0, 30, 60, 900, 9);
        late.addCrew(0, 400, 7, true);
        late.addFlight(0, 1, 420, 0, 0);
        c.same("22 the crew's report", late.cause(0), 'h');
        RunwayLoom bag = Check.outAndBack();
        bag.addGroup(0, -1, 50, 0, true);
        bag.addGroup(0, -1, 50, 0, true);
        c.same("22 b", bag.cause(0), 'b');
        RunwayLoom queue = Check.outAndBack();
        queue.turnRunway(425);
        c.same("22 q", queue.cause(0), 'q');
        RunwayLoom cut = Check.outAndBack();
        cut.cancel(0);
        c.same("22 x, o", "" + cut.cause(0) + cut.cause(1), "xo");
    }

    private static void causesOfEqualMinutes() {
        RunwayLoom d = Check.outAndBack();
        d.addGroup(0, -1, 50, 0, true);
        d.addGroup(0, -1, 50, 0, true);
        d.hold(0, 10);
        c.same("22 d ahead of b", d.cause(0), 'h');
        d.hold(0, 9);
        c.same("22 b took more", d.cause(0), 'b');
        d.hold(0, 0);
        d.ice(435, 435);
        c.same("22 b ahead of i", "" + d.cause(0) + d.minuteOf(0, 'T'), "b445");
        RunwayLoom i = Check.outAndBack();
        i.ice(425, 425);
        i.slot(0, 450);
        c.same("22 i ahead of s", "" + i.cause(0) + i.minuteOf(0, 'T'), "i445");
        i.slot(0, 451);
        c.same("22 s took more", i.cause(0), 's');
        RunwayLoom s = Check.outAndBack();
        s.slot(0, 440);
        s.turnRunway(435);
        c.same("22 s ahead of q", "" + s.cause(0) + s.minuteOf(0, 'T'), "s445");
        RunwayLoom a = Check.home();
        a.addFlight(0, 1, 420, 0, 0);
        a.addFlight(0, 1, 435, 1, 1);
        a.addFlight(1, 0, 500, 0, 1);
        c.same("22 a ahead of c", "" + a.cause(2) + a.root(2) + a.minuteOf(2, 'D'), "a0515");
        RunwayLoom h = Check.home();
        h.addFlight(0, 1, 420, 0, 0);
        h.addFlight(1, 0, 500, 0, 0);
        h.hold(1, 15);
        c.same("22 a ahead of h", h.cause(1), 'a');
        h.hold(1, 16);
        c.same("22 h came last", h.cause(1), 'h');
        for (int report = 470; report <= 471; report++) {
            RunwayLoom r = Check.home();
            r.addCrew(1, report, 7, true);
            r.addFlight(0, 1, 420, 0, 0);
            r.addFlight(1, 0, 500, 0, 2);
            c.same("22 the report plus 45 came last with 471", r.cause(1), report == 470 ? 'a' : 'h');
        }
        RunwayLoom o = Check.home();
        o.addAircraft(1, 1, 30, 60, 900, 9);
        o.addFlight(0, 1, 420, 0, 0);
        o.addFlight(1, 0, 490, 2, 0);
        o.hold(1, 10);
        c.same("22 c ahead of h", o.cause(1), 'c');
        o.hold(1, 11);
        c.same("22 h came last, not c", o.cause(1), 'h');
    }

    private static void roots() {
        RunwayLoom x = Check.outAndBack();
        x.addFlight(0, 2, 620, 0, 0);
        c.same("23 itself", "" + x.root(0) + x.root(1) + x.root(2), "012");
        x.hold(0, 60);
        c.same("23 the aircraft's last one, and that one's", "" + x.cause(1) + x.cause(2) + x.root(1) + x.root(2), "aa00");
        x.cancel(0);
        c.same("23 of cancelled ones", "" + x.root(0) + x.root(1), "01");
        c.index("23 flight -1", () -> x.root(-1));
        c.index("23 flight 3", () -> x.root(3));
        RunwayLoom y = Check.home();
        y.addAircraft(1, 1, 30, 60, 900, 9);
        y.addFlight(0, 1, 420, 0, 0);
        y.addFlight(1, 0, 490, 2, 0);
        c.same("23 the crew's last one", "" + y.cause(1) + y.root(1), "c0");
        RunwayLoom z = connection(1, 500, 60);
        c.same("23 the group's", "" + z.cause(1) + z.root(1), "p0");
        RunwayLoom w = connection(1, 500, 60);
        w.addFlight(1, 0, 420, 1, 1);
        c.same("23 one ahead that did not fly", "" + w.cause(2) + w.cause(1) + w.root(1), "op0");
    }
}
