import java.util.List;
import java.util.function.Function;

/** Promises 1 to 18: what is told of the airline, with its edges, its exceptions and their order. */
public final class PlanTest {
    private static final Check c = new Check();

    public static void main(String[] args) {
        newObject();
        fly();
        addAircraft();
        fault();
        addCrew();
        addStand();
        turnRunway();
        ice();
        setPads();
        addFlight();
        slot();
        trade();
        hold();
        waitFor();
        swap();
        cancel();
        addGroup();
        tell();
        whatIsToldCountsAtOnce();
        throwingChangesNothing();
        c.end("PlanTest");
    }

    private static void newObject() {
        RunwayLoom x = new RunwayLoom();
        c.same("1 harm", x.harm(), 0);
        c.same("1 paid", x.paid(), 0);
        c.same("1 missed", x.missed(), 0);
        c.same("1 lateBags", x.lateBags(), 0);
        c.same("1 logLength", x.logLength(), 0);
        c.same("1 isSound", x.isSound(), true);
        c.index("1 state", () -> x.state(0));
        c.index("1 lateness", () -> x.lateness(0));
        c.index("1 fault", () -> x.fault(0, 0));
        c.same("1 pads", x.setPads(2), 1);
        c.same("1 fly", x.fly(2, 3, 70), 60);
        c.same("1 no ice: the log", iceOf(Check.outAndBack()), "420D0;425T0;485E0;");
    }

    private static String iceOf(RunwayLoom x) {
        return Check.log(x, 0);
    }

    private static void fly() {
        RunwayLoom x = Check.outAndBack();
        c.same("2 first", x.fly(0, 1, 30), 60);
        c.same("2 the other way", x.fly(1, 0, 300), 30);
        c.same("2 again", x.fly(0, 1, 45), 300);
        c.same("2 another one", x.fly(0, 2, 61), 60);
        c.same("2 both ways", Check.log(x), "420D0;425T0;470E0;520D1;525T1;570L1;575E1;");
        c.index("2 from -1", () -> x.fly(-1, 1, 60));
        c.index("2 to 4", () -> x.fly(0, 4, 60));
        c.index("2 ahead of the minutes", () -> x.fly(4, 4, 0));
        c.argument("2 the same", () -> x.fly(2, 2, 60));
        c.argument("2 29", () -> x.fly(0, 1, 29));
        c.argument("2 301", () -> x.fly(0, 1, 301));
        c.same("2 nothing changed", x.fly(0, 1, 60), 45);
    }

    private static void addAircraft() {
        RunwayLoom x = new RunwayLoom();
        c.index("3 airport -1", () -> x.addAircraft(1, -1, 30, 60, 900, 9));
        c.index("3 airport 4, ahead of the family", () -> x.addAircraft(9, 4, 30, 60, 900, 9));
        c.argument("3 family -1", () -> x.addAircraft(-1, 0, 30, 60, 900, 9));
        c.argument("3 family 3", () -> x.addAircraft(3, 0, 30, 60, 900, 9));
        c.argument("3 turn 19", () -> x.addAircraft(1, 0, 19, 60, 900, 9));
        c.argument("3 turn 91", () -> x.addAircraft(1, 0, 91, 60, 900, 9));
        c.argument("3 seats 0", () -> x.addAircraft(1, 0, 30, 0, 900, 9));
        c.argument("3 seats 301", () -> x.addAircraft(1, 0, 30, 301, 900, 9));
        c.argument("3 minutes -1", () -> x.addAircraft(1, 0, 30, 60, -1, 9));
        c.argument("3 minutes 2001", () -> x.addAircraft(1, 0, 30, 60, 2001, 9));
        c.argument("3 landings -1", () -> x.addAircraft(1, 0, 30, 60, 900, -1));
        c.argument("3 landings 21", () -> x.addAircraft(1, 0, 30, 60, 900, 21));
        c.same("3 the least", x.addAircraft(0, 0, 20, 1, 0, 0), 0);
        c.same("3 the most", x.addAircraft(2, 3, 90, 300, 2000, 20), 1);
        for (int i = 2; i < 5; i++) {
            c.same("3 number", x.addAircraft(1, 0, 30, 60, 900, 9), i);
        }
        c.state("3 a sixth one", () -> x.addAircraft(1, 0, 30, 60, 900, 9));
        c.argument("3 a sixth one of no family", () -> x.addAircraft(3, 0, 30, 60, 900, 9));
        c.index("3 a sixth one nowhere", () -> x.addAircraft(1, 4, 30, 60, 900, 9));
    }

    private static void fault() {
        RunwayLoom x = Check.outAndBack();
        c.same("4 could", x.fault(0, 1), true);
        c.same("4 could not", x.fault(0, 1), false);
        c.same("4 another one could", x.fault(1, 1), true);
        c.same("4 another airport", x.fault(0, 3), true);
        c.same("4 it does not fly", x.cause(0), 'f');
        c.index("4 aircraft -1", () -> x.fault(-1, 1));
        c.index("4 aircraft 2", () -> x.fault(2, 1));
        c.index("4 airport -1", () -> x.fault(0, -1));
        c.index("4 airport 4", () -> x.fault(0, 4));
    }

    private static void addCrew() {
        RunwayLoom x = new RunwayLoom();
        c.index("5 airport -1", () -> x.addCrew(-1, 360, 7, true));
        c.index("5 airport 4, ahead of the report", () -> x.addCrew(4, -1, 0, true));
        c.argument("5 report -1", () -> x.addCrew(0, -1, 7, true));
        c.argument("5 report 1440", () -> x.addCrew(0, 1440, 7, true));
        c.argument("5 families 0", () -> x.addCrew(0, 360, 0, true));
        c.argument("5 families 8", () -> x.addCrew(0, 360, 8, true));
        c.same("5 the least", x.addCrew(0, 0, 1, true), 0);
        c.same("5 the most", x.addCrew(3, 1439, 7, false), 1);
        for (int i = 2; i < 5; i++) {
            c.same("5 number", x.addCrew(0, 360, 7, true), i);
        }
        c.state("5 a sixth one", () -> x.addCrew(0, 360, 7, true));
        c.argument("5 a sixth one of no family", () -> x.addCrew(0, 360, 0, true));
    }

    private static void addStand() {
        RunwayLoom x = new RunwayLoom();
        c.argument("6 family -1", () -> x.addStand(-1, true));
        c.argument("6 family 3", () -> x.addStand(3, true));
        for (int i = 0; i < 6; i++) {
            c.same("6 number", x.addStand(i % 3, i > 3), i);
        }
        c.state("6 a seventh one", () -> x.addStand(0, true));
        c.argument("6 a seventh one of no family", () -> x.addStand(3, true));
    }

    private static void turnRunway() {
        RunwayLoom x = new RunwayLoom();
        c.argument("7 -1", () -> x.turnRunway(-1));
        c.argument("7 2000", () -> x.turnRunway(2000));
        c.same("7 once", x.turnRunway(0), 1);
        c.same("7 twice", x.turnRunway(1999), 2);
        c.same("7 three times, the same again", x.turnRunway(1999), 3);
        c.state("7 four times", () -> x.turnRunway(5));
        c.argument("7 four times, out of range", () -> x.turnRunway(-5));
    }

    private static void ice() {
        RunwayLoom x = Check.outAndBack();
        c.same("8 one minute", x.ice(425, 425), 1);
        c.same("8 iced off", x.minuteOf(0, 'T'), 435);
        c.same("8 all day", x.ice(0, 1999), 2000);
        c.same("8 none", x.ice(500, 499), 0);
        c.same("8 none, far down", x.ice(500, Integer.MIN_VALUE), 0);
        c.same("8 instead of before", x.minuteOf(0, 'T'), 425);
        c.same("8 some", x.ice(420, 440), 21);
        c.argument("8 from -1", () -> x.ice(-1, 500));
        c.argument("8 from 2000", () -> x.ice(2000, 1999));
        c.argument("8 to 2000", () -> x.ice(5, 2000));
        c.argument("8 to more than any", () -> x.ice(5, Integer.MAX_VALUE));
        c.same("8 nothing changed", x.minuteOf(0, 'T'), 435);
    }

    private static void setPads() {
        RunwayLoom x = new RunwayLoom();
        c.same("9 at first", x.setPads(0), 1);
        c.same("9 then", x.setPads(3), 0);
        c.argument("9 -1", () -> x.setPads(-1));
        c.argument("9 4", () -> x.setPads(4));
        c.same("9 still", x.setPads(2), 3);
    }

    private static void addFlight() {
        RunwayLoom x = Check.home();
        c.index("10 from -1", () -> x.addFlight(-1, 0, 400, 0, 0));
        c.index("10 to 4", () -> x.addFlight(0, 4, 400, 0, 0));
        c.index("10 aircraft 2", () -> x.addFlight(0, 1, 400, 2, 0));
        c.index("10 aircraft -1", () -> x.addFlight(0, 1, 400, -1, 0));
        c.index("10 crew 2, ahead of the minute", () -> x.addFlight(0, 1, -1, 0, 2));
        c.index("10 crew -1", () -> x.addFlight(1, 2, 400, 0, -1));
        c.argument("10 home to home", () -> x.addFlight(0, 0, 400, 0, 0));
        c.argument("10 not home", () -> x.addFlight(1, 2, 400, 0, 0));
        c.argument("10 minute -1", () -> x.addFlight(0, 1, -1, 0, 0));
        c.argument("10 minute 1440", () -> x.addFlight(0, 1, 1440, 0, 0));
        c.same("10 the first minute", x.addFlight(0, 1, 0, 0, 0), 0);
        c.same("10 the last minute", x.addFlight(3, 0, 1439, 1, 1), 1);
        for (int i = 2; i < 10; i++) {
            c.same("10 number", x.addFlight(0, 1, 400, 0, 0), i);
        }
        c.state("10 an eleventh one", () -> x.addFlight(0, 1, 400, 0, 0));
        c.argument("10 an eleventh one from home to home", () -> x.addFlight(0, 0, 400, 0, 0));
        c.index("10 an eleventh one without a crew", () -> x.addFlight(0, 1, 400, 0, 2));
    }

    private static void slot() {
        RunwayLoom x = Check.outAndBack();
        c.same("11 none before", x.slot(0, 0), -1);
        c.same("11 one before", x.slot(0, 1999), 0);
        c.same("11 another one before", x.slot(0, 450), 1999);
        c.same("11 it is kept till 5 minutes ahead", x.minuteOf(0, 'T'), 445);
        c.index("11 flight -1", () -> x.slot(-1, 450));
        c.index("11 flight 2, ahead of the minute", () -> x.slot(2, 2000));
        c.unsupported("11 not from home", () -> x.slot(1, 450));
        c.unsupported("11 not from home, ahead of the minute", () -> x.slot(1, 2000));
        c.argument("11 -1", () -> x.slot(0, -1));
        c.argument("11 2000", () -> x.slot(0, 2000));
        c.same("11 nothing changed", x.slot(0, 460), 450);
    }

    private static void trade() {
        RunwayLoom x = Check.outAndBack();
        x.addFlight(0, 2, 425, 1, 1);
        x.slot(0, 450);
        c.unsupported("12 the other has none", () -> x.trade(0, 2));
        c.unsupported("12 the first has none", () -> x.trade(2, 0));
        c.unsupported("12 the same without one", () -> x.trade(2, 2));
        c.index("12 flight 3", () -> x.trade(3, 1));
        c.index("12 other -1, ahead of the slots", () -> x.trade(1, -1));
        x.slot(2, 470);
        c.same("12 the slot then", x.trade(0, 2), 470);
        c.same("12 the minute then", x.minuteOf(0, 'T'), 465);
        c.same("12 the other one's minute then", x.minuteOf(2, 'T'), 445);
        c.same("12 with itself", x.trade(0, 0), 470);
        c.same("12 the other one", x.slot(2, 480), 450);
    }

    private static void hold() {
        RunwayLoom x = Check.outAndBack();
        c.same("13 none at first", x.hold(0, 240), 0);
        c.same("13 before", x.hold(0, 7), 240);
        c.same("13 the doors", x.minuteOf(0, 'D'), 427);
        c.index("13 flight -1", () -> x.hold(-1, 5));
        c.index("13 flight 2, ahead of the minutes", () -> x.hold(2, -1));
        c.argument("13 -1", () -> x.hold(0, -1));
        c.argument("13 241", () -> x.hold(0, 241));
        c.same("13 still", x.hold(0, 0), 7);
    }

    private static void waitFor() {
        RunwayLoom x = Check.outAndBack();
        c.same("14 none at first", x.waitFor(1, 60), 0);
        c.same("14 before", x.waitFor(1, 0), 60);
        c.same("14 before that", x.waitFor(1, 9), 0);
        c.index("14 flight -1", () -> x.waitFor(-1, 5));
        c.index("14 flight 2, ahead of the minutes", () -> x.waitFor(2, 61));
        c.argument("14 -1", () -> x.waitFor(1, -1));
        c.argument("14 61", () -> x.waitFor(1, 61));
        c.same("14 still", x.waitFor(1, 3), 9);
    }

    private static void swap() {
        RunwayLoom x = Check.outAndBack();
        x.addAircraft(2, 0, 30, 60, 900, 9);
        x.addFlight(0, 2, 620, 0, 0);
        x.addFlight(0, 1, 600, 1, 1);
        x.addFlight(1, 0, 700, 1, 1);
        x.addFlight(0, 1, 620, 2, 1);
        c.index("15 flight -1", () -> x.swap(-1, 0));
        c.index("15 other 6", () -> x.swap(0, 6));
        c.unsupported("15 the same flight", () -> x.swap(0, 0));
        c.unsupported("15 the same aircraft", () -> x.swap(0, 1));
        c.unsupported("15 unlike families", () -> x.swap(0, 5));
        c.same("15 the aircraft then", x.swap(2, 3), 1);
        x.fault(1, 1);
        c.same("15 the ones ahead keep theirs", x.cause(0), '-');
        c.same("15 the other one changed", x.state(3), 'e');
        x.fault(0, 1);
        c.same("15 they still do", x.cause(0), 'f');
        RunwayLoom y = new RunwayLoom();
        y.addAircraft(1, 0, 30, 60, 900, 9);
        y.addAircraft(1, 0, 30, 60, 900, 9);
        y.addCrew(0, 360, 7, true);
        y.addCrew(0, 360, 7, true);
        y.addFlight(0, 1, 420, 0, 0);
        y.addFlight(0, 1, 420, 1, 1);
        y.addFlight(1, 0, 520, 0, 0);
        y.addFlight(1, 0, 520, 1, 1);
        y.fault(1, 0);
        c.same("15 the second one's way back is not flown", "" + y.state(2) + y.state(3), "ex");
        c.same("15 all behind them, too", y.swap(0, 1), 1);
        c.same("15 then the first one's is not", "" + y.state(2) + y.state(3), "xe");
        c.same("15 back again, from the last ones on", y.swap(2, 3), 0);
        c.same("15 as it was", "" + y.state(2) + y.state(3), "ex");
    }

    private static void cancel() {
        RunwayLoom x = Check.outAndBack();
        c.index("16 flight -1", () -> x.cancel(-1));
        c.index("16 flight 2", () -> x.cancel(2));
        c.same("16 it was not told so", x.cancel(1), true);
        c.same("16 it was", x.cancel(1), false);
        c.same("16 another one", x.cancel(0), true);
        c.same("16 ahead of all, by numbers", Check.log(x), "0x0;0x1;");
    }

    private static void addGroup() {
        RunwayLoom x = Check.outAndBack();
        c.index("17 first -1", () -> x.addGroup(-1, -1, 5, 0, true));
        c.index("17 first 2", () -> x.addGroup(2, -1, 5, 0, true));
        c.index("17 second -2", () -> x.addGroup(0, -2, 5, 0, true));
        c.index("17 second 2, ahead of the people", () -> x.addGroup(0, 2, 0, 0, true));
        c.argument("17 people 0", () -> x.addGroup(0, 1, 0, 0, true));
        c.argument("17 people 51", () -> x.addGroup(0, 1, 51, 0, true));
        c.argument("17 rank -1", () -> x.addGroup(0, 1, 5, -1, true));
        c.argument("17 rank 3, ahead of the second flight", () -> x.addGroup(0, 0, 5, 3, true));
        c.unsupported("17 the same flight twice", () -> x.addGroup(0, 0, 5, 0, true));
        x.addFlight(2, 0, 520, 0, 0);
        c.unsupported("17 from another airport", () -> x.addGroup(0, 2, 5, 0, true));
        c.same("17 the least", x.addGroup(0, 1, 1, 0, true), 0);
        c.same("17 the most", x.addGroup(1, -1, 50, 2, false), 1);
        c.same("17 the second one ahead in time", x.addGroup(1, 0, 50, 2, false), 2);
        for (int i = 3; i < 12; i++) {
            c.same("17 number", x.addGroup(0, -1, 1, 0, true), i);
        }
        c.state("17 a thirteenth one", () -> x.addGroup(0, -1, 1, 0, true));
        c.unsupported("17 a thirteenth one from elsewhere", () -> x.addGroup(0, 2, 1, 0, true));
        c.argument("17 a thirteenth one of nobody", () -> x.addGroup(0, 2, 0, 0, true));
    }

    private static void tell() {
        RunwayLoom x = Check.outAndBack();
        c.index("18 flight -1", () -> x.tell('h', -1, 0, 0, 0));
        c.index("18 flight 2, ahead of the kind", () -> x.tell('y', 2, 0, 0, 0));
        c.argument("18 kind H", () -> x.tell('H', 0, 0, 0, 0));
        c.argument("18 hold -1", () -> x.tell('h', 0, -1, 0, 0));
        c.argument("18 hold 241", () -> x.tell('h', 0, 241, 0, 0));
        c.argument("18 happened -1", () -> x.tell('h', 0, 0, -1, 0));
        c.argument("18 happened 2000", () -> x.tell('h', 0, 0, 2000, 2000));
        c.argument("18 it comes ahead of that", () -> x.tell('h', 0, 0, 10, 9));
        c.argument("18 it comes at 2000", () -> x.tell('h', 0, 0, 10, 2000));
        c.same("18 the least", x.tell('h', 0, 0, 0, 0), 1);
        c.same("18 the most", x.tell('h', 0, 240, 1999, 1999), 2);
        c.same("18 a number of no meaning", x.tell('x', 0, -5, 1998, 1999), 3);
        c.same("18 another one of no meaning", x.tell('f', 0, 1000, 5, 6), 4);
        for (int i = 5; i <= 10; i++) {
            c.same("18 how many", x.tell('h', 0, 0, 0, 0), i);
        }
        c.state("18 an eleventh one", () -> x.tell('h', 0, 0, 0, 0));
        c.argument("18 an eleventh one of no kind", () -> x.tell('d', 0, 0, 0, 0));
    }

    private static void change(RunwayLoom x, int number) {
        switch (number) {
            case 0: x.fly(0, 1, 90); break;
            case 1: x.addAircraft(1, 0, 30, 60, 900, 9); break;
            case 2: x.fault(0, 0); break;
            case 3: x.addCrew(0, 360, 7, true); break;
            case 4: x.addStand(1, true); break;
            case 5: x.turnRunway(430); break;
            case 6: x.ice(600, 800); break;
            case 7: x.setPads(0); break;
            case 8: x.addFlight(0, 1, 900, 1, 1); break;
            case 9: x.slot(0, 470); break;
            case 10: x.trade(2, 3); break;
            case 11: x.hold(2, 90); break;
            case 12: x.waitFor(2, 60); break;
            case 13: x.swap(2, 3); break;
            case 14: x.cancel(1); break;
            case 15: x.addGroup(2, -1, 50, 0, true); break;
            case 16: x.tell('x', 1, 0, 400, 400); break;
            default: x.recover(6);
        }
    }

    /** A day that was asked about ahead of a change is the same then as one that was not. */
    private static void whatIsToldCountsAtOnce() {
        for (int i = 0; i < 18; i++) {
            RunwayLoom asked = Check.rich();
            Check.picture(asked);
            change(asked, i);
            RunwayLoom notAsked = Check.rich();
            change(notAsked, i);
            c.same("change " + i + ", asked ahead", Check.picture(asked), Check.picture(notAsked));
        }
        RunwayLoom twice = Check.rich();
        String first = Check.picture(twice);
        c.same("asked twice", Check.picture(twice), first);
    }

    /** Every wrong call, on an airline with something of everything, leaves what a twin without it shows. */
    private static void throwingChangesNothing() {
        List<Function<RunwayLoom, Object>> calls = List.of(
            x -> x.fly(0, 4, 60), x -> x.fly(1, 1, 60), x -> x.fly(0, 1, 301),
            x -> x.addAircraft(0, 4, 30, 60, 900, 9), x -> x.addAircraft(0, 0, 30, 60, 900, 21),
            x -> x.fault(2, 1), x -> x.fault(0, 4), x -> x.addCrew(0, 1440, 7, true), x -> x.addStand(3, true),
            x -> x.turnRunway(2000), x -> x.ice(400, 2000), x -> x.ice(2000, 0), x -> x.setPads(4),
            x -> x.addFlight(1, 2, 400, 0, 0), x -> x.addFlight(0, 1, 1440, 0, 0), x -> x.addFlight(0, 1, 400, 2, 0),
            x -> x.slot(1, 450), x -> x.slot(0, 2000), x -> x.trade(0, 2), x -> x.trade(2, 0), x -> x.hold(0, 241),
            x -> x.waitFor(2, 61), x -> x.swap(0, 1), x -> x.swap(0, 9), x -> x.cancel(4),
            x -> x.addGroup(0, 2, 5, 1, true), x -> x.addGroup(0, 1, 51, 1, true), x -> x.tell('h', 0, 241, 0, 0),
            x -> x.tell('x', 0, 0, 5, 4), x -> x.state(4), x -> x.minuteOf(0, 'M'), x -> x.minuteOf(0, 'L'),
            x -> x.standOf(0), x -> x.cause(-1), x -> x.root(4), x -> x.lateness(3), x -> x.lastOf(3),
            x -> x.isStranded(-1), x -> x.logAt(-1), x -> x.logAt(x.logLength()), x -> x.recover(0),
            x -> x.recover(15), x -> x.recover(16), x -> x.recover(-1), x -> x.isBest(0), x -> x.isBest(15),
            x -> x.isBest(32));
        String untouched = Check.lastPicture(Check.rich());
        for (int i = 0; i < calls.size(); i++) {
            RunwayLoom x = Check.rich();
            boolean isThrown = false;
            try {
                calls.get(i).apply(x);
            } catch (RuntimeException e) {
                isThrown = true;
            }
            c.same("wrong call " + i + " throws", isThrown, true);
            c.same("after wrong call " + i, Check.lastPicture(x), untouched);
        }
    }
}
