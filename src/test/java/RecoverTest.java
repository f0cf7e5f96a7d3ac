/** Promises 33, 34 and 37: the plan that does least harm, and whether the day was lawful. */
public final class RecoverTest {
    private static final Check c = new Check();

    public static void main(String[] args) {
        wrongNumbers();
        aHoldHelps();
        mostHold();
        aCancellingHelps();
        theFirstOfEqualPlans();
        lowestFlightFirst();
        threeFlights();
        isBestChangesNothing();
        isSound();
        c.end("RecoverTest");
    }

    /** Flight 0 ends at home at 490 if it has no hold; its group wants to go on with flight 1, off at a minute. */
    private static RunwayLoom connection(int firstOff, int secondOff) {
        RunwayLoom x = new RunwayLoom();
        x.addStand(2, true);
        x.addAircraft(1, 1, 30, 60, 900, 9);
        x.addAircraft(1, 0, 30, 60, 900, 9);
        x.addCrew(1, 360, 7, true);
        x.addCrew(0, 360, 7, true);
        x.addFlight(1, 0, firstOff, 0, 0);
        x.addFlight(0, 1, secondOff, 1, 1);
        x.addGroup(0, 1, 10, 1, true);
        return x;
    }

    private static void wrongNumbers() {
        RunwayLoom x = connection(420, 500);
        c.unsupported("33 none", () -> x.recover(0));
        c.unsupported("34 none", () -> x.isBest(0));
        c.argument("33 flight 2", () -> x.recover(4));
        c.argument("34 flight 2", () -> x.isBest(5));
        c.argument("33 -1", () -> x.recover(-1));
        c.argument("34 the least number", () -> x.isBest(Integer.MIN_VALUE));
        RunwayLoom none = new RunwayLoom();
        c.argument("33 no flights", () -> none.recover(1));
        c.unsupported("33 no flights, none asked for", () -> none.recover(0));
        RunwayLoom many = Check.home();
        for (int i = 0; i < 10; i++) {
            many.addFlight(0, 1, 400 + i, 0, 0);
        }
        c.unsupported("33 four", () -> many.recover(15));
        c.unsupported("34 all ten", () -> many.isBest(1023));
        c.argument("33 four, and one that is none", () -> many.recover(15 + 1024));
        c.argument("34 more than three, and one that is none", () -> many.isBest(2047));
        c.same("33 three of ten", many.recover(512 + 256 + 1) > 0, true);
    }

    private static void aHoldHelps() {
        RunwayLoom x = connection(420, 500);
        c.same("33 before", x.harm(), 6000);
        c.same("34 not the best", x.isBest(2), false);
        c.same("34 for the other one", x.isBest(1), true);
        c.same("33 20 minutes", x.recover(2), 250);
        c.same("33 the harm then", x.harm(), 250);
        c.same("34 the best now", x.isBest(2), true);
        c.same("33 the group is on board", x.lastOf(0), 1);
        c.same("33 again", x.recover(2), 250);
        c.same("33 the hold", x.hold(1, 0), 20);
        RunwayLoom y = connection(420, 490);
        c.same("33 40 minutes", y.recover(2), 450);
        c.same("33 the hold of 40", y.hold(1, 0), 40);
        RunwayLoom z = connection(420, 479);
        c.same("33 41 would be due", z.recover(2), 6000);
        c.same("33 so it is as it was", z.hold(1, 0), 0);
    }

    private static void mostHold() {
        RunwayLoom x = connection(640, 500);
        x.hold(1, 230);
        c.same("33 240 in place of 250", x.recover(2), 2450);
        c.same("33 the hold of 240", x.hold(1, 240), 240);
        RunwayLoom y = connection(641, 500);
        y.hold(1, 230);
        c.same("33 not more than 240", y.recover(2), 6000);
        c.same("33 the hold of 230", y.hold(1, 0), 230);
    }

    /** Flight 0 takes the aircraft away from flight 1, which has all the people. */
    private static RunwayLoom away() {
        RunwayLoom x = Check.home();
        x.addFlight(0, 1, 420, 0, 0);
        x.addFlight(0, 1, 430, 0, 0);
        x.addGroup(1, -1, 50, 0, true);
        return x;
    }

    private static void aCancellingHelps() {
        RunwayLoom x = away();
        c.same("33 before", x.harm(), 33000);
        c.same("34 not the best", x.isBest(1), false);
        c.same("33 cancelled", x.recover(1), 3000 + 250);
        c.same("33 as told ahead", Check.log(x), "0x0;430D1;435T1;495E1;");
        c.same("33 it was told so", x.cancel(0), false);
        c.same("33 its hold is as it was", x.hold(0, 0), 0);
        c.same("34 the best now", x.isBest(3), true);
        RunwayLoom held = away();
        held.hold(0, 5);
        held.recover(1);
        c.same("33 a cancelled one keeps its hold", held.hold(0, 0), 5);
    }

    private static void theFirstOfEqualPlans() {
        RunwayLoom x = Check.outAndBack();
        x.hold(0, 7);
        c.same("33 nothing does harm", x.recover(3), 0);
        c.same("33 as it is", "" + x.hold(0, 0) + x.hold(1, 0) + x.cancel(0) + x.cancel(1), "70truetrue");
        c.same("34 cancelled already: nothing is less", x.isBest(3), true);
        c.same("33 cancelled already", x.recover(3), 6000);
        c.same("33 and as it is", "" + x.hold(0, 0) + x.hold(1, 0), "00");
        RunwayLoom y = connection(420, 485);
        c.same("33 a hold of 40 is needed", y.recover(2), 450);
        c.same("33 so there is none of 20", y.hold(1, 0), 40);
    }

    /** A group that flight 0 goes on with if it is held, or else flight 1 if that is: both do the same harm. */
    private static void lowestFlightFirst() {
        RunwayLoom x = new RunwayLoom();
        x.addStand(2, true);
        x.addAircraft(1, 1, 30, 60, 900, 9);
        x.addCrew(1, 360, 7, true);
        for (int i = 0; i < 2; i++) {
            x.addAircraft(1, 0, 30, 30, 900, 9);
            x.addCrew(0, 360, 7, true);
        }
        x.addFlight(0, 1, 500, 1, 1);
        x.addFlight(0, 1, 500, 2, 2);
        x.addFlight(1, 0, 420, 0, 0);
        x.addGroup(2, 0, 10, 1, true);
        c.same("33 it is left behind, and booked on none", x.isStranded(0), true);
        c.same("33 the harm of a hold", x.recover(3), 250);
        c.same("33 the plan of the lowest flight counts first", "" + x.hold(0, 0) + ' ' + x.hold(1, 0), "0 20");
    }

    private static void threeFlights() {
        RunwayLoom x = connection(420, 500);
        x.addAircraft(1, 0, 30, 60, 900, 9);
        x.addCrew(0, 360, 7, true);
        x.addFlight(0, 2, 500, 2, 2);
        x.addGroup(0, 2, 10, 1, true);
        x.addGroup(2, -1, 1, 1, true);
        c.same("33 before, with a take-off behind another one", x.harm(), 12007);
        c.same("34 not the best", x.isBest(7), false);
        c.same("33 three flights", x.recover(7), 250 + 450 + 45);
        c.same("33 all holds", "" + x.hold(0, 0) + ' ' + x.hold(1, 0) + ' ' + x.hold(2, 0), "0 20 40");
    }

    private static void isBestChangesNothing() {
        String untouched = Check.lastPicture(Check.rich());
        for (int flights = 1; flights < 15; flights++) {
            RunwayLoom x = Check.rich();
            x.isBest(flights);
            c.same("34 nothing is changed", Check.lastPicture(x), untouched);
            RunwayLoom asked = Check.rich();
            asked.harm();
            asked.isBest(flights);
            c.same("34 nothing is changed, asked ahead", Check.lastPicture(asked), untouched);
        }
    }

    private static void isSound() {
        c.same("37 nothing", new RunwayLoom().isSound(), true);
        c.same("37 out and back", Check.outAndBack().isSound(), true);
        RunwayLoom x = Check.rich();
        c.same("37 much", x.isSound(), true);
        String before = Check.picture(x);
        x.isSound();
        c.same("37 it changes nothing", Check.picture(x), before);
        x.cancel(0);
        c.same("37 a day of cancelled ones", x.isSound(), true);
        RunwayLoom late = connection(420, 500);
        late.slot(1, 800);
        late.ice(300, 900);
        c.same("37 with ice and a slot", late.isSound(), true);
    }
}
