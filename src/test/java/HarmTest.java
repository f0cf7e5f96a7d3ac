/** Promises 24, 29, 30, 35 and 36: lateness, harm, what is paid, and the shares. */
public final class HarmTest {
    private static final Check c = new Check();

    public static void main(String[] args) {
        lateness();
        latenessOfConnections();
        harm();
        paid();
        notPaid();
        onTimeShare();
        meanLateness();
        c.end("HarmTest");
    }

    private static RunwayLoom oneGroup() {
        RunwayLoom x = Check.outAndBack();
        x.addGroup(0, -1, 10, 1, true);
        return x;
    }

    private static void lateness() {
        RunwayLoom x = oneGroup();
        c.same("24 end less off less flying time", x.lateness(0), 5);
        x.hold(0, 100);
        c.same("24 later", x.lateness(0), 105);
        c.index("24 group -1", () -> x.lateness(-1));
        c.index("24 group 1", () -> x.lateness(1));
        x.cancel(0);
        c.same("24 has not come there", x.lateness(0), 600);
        RunwayLoom stuck = oneGroup();
        stuck.ice(0, 1999);
        stuck.setPads(0);
        c.same("24 on board, but has not come there", stuck.lateness(0), 600);
        c.same("25 on board of one that does not fly", stuck.lastOf(0), 0);
        RunwayLoom y = new RunwayLoom();
        y.addAircraft(1, 0, 30, 60, 900, 9);
        y.addAircraft(1, 0, 30, 60, 900, 9);
        y.addCrew(0, 360, 7, true);
        y.addCrew(0, 840, 7, true);
        y.addFlight(0, 1, 420, 0, 0);
        y.addFlight(0, 1, 1014, 1, 1);
        y.addGroup(0, -1, 10, 1, true);
        y.cancel(0);
        c.same("24 599", y.lateness(0), 599);
        y.hold(1, 1);
        c.same("24 600", y.lateness(0), 600);
        y.hold(1, 2);
        c.same("24 at most 600", y.lateness(0), 600);
    }

    private static void latenessOfConnections() {
        RunwayLoom x = Check.outAndBack();
        x.addFlight(0, 2, 640, 0, 0);
        x.addGroup(1, 2, 10, 1, true);
        x.addGroup(0, 1, 10, 1, true);
        c.same("24 of the last flight", x.lateness(0), 5);
        c.same("24 with a stand to reach", x.lateness(1), 10);
        x.cancel(2);
        c.same("24 just the first one taken", x.lateness(0), 600);
        RunwayLoom y = new RunwayLoom();
        for (int i = 0; i < 2; i++) {
            y.addAircraft(1, 0, 30, 60, 900, 9);
            y.addCrew(0, 360, 7, true);
        }
        y.addFlight(0, 1, 700, 0, 0);
        y.addFlight(0, 1, 420, 1, 1);
        y.addGroup(0, -1, 10, 1, true);
        y.cancel(0);
        c.same("24 earlier than booked counts 0", y.lateness(0), 0);
        c.same("25 booked on the earlier one", y.lastOf(0), 1);
    }

    private static void harm() {
        RunwayLoom x = oneGroup();
        c.same("29 people times lateness", x.harm(), 50);
        x.addGroup(1, -1, 3, 0, true);
        c.same("29 the sum", x.harm(), 50 + 30);
        x.cancel(1);
        c.same("29 a cancelled flight", x.harm(), 50 + 1800 + 3000);
        x.cancel(0);
        c.same("29 two of them", x.harm(), 6000 + 1800 + 6000);
        RunwayLoom y = Check.outAndBack();
        y.cancel(0);
        c.same("29 each cancelled one, whyever", y.harm(), 6000);
    }

    private static void paid() {
        RunwayLoom x = oneGroup();
        c.same("30 in time", x.paid(), 0);
        x.hold(0, 174);
        c.same("30 lateness 179", "" + x.lateness(0) + ' ' + x.paid(), "179 0");
        x.hold(0, 175);
        c.same("30 lateness 180", "" + x.lateness(0) + ' ' + x.paid(), "180 2500");
        x.addGroup(0, -1, 1, 1, true);
        c.same("30 each person", x.paid(), 2750);
        RunwayLoom y = oneGroup();
        y.fault(0, 1);
        c.same("30 stranded by a fault", y.paid(), 2500);
        RunwayLoom full = oneGroup();
        full.addGroup(0, -1, 50, 0, true);
        full.addGroup(0, -1, 50, 0, true);
        c.same("30 stranded, left behind by a flight of cause b", "" + full.cause(0) + full.paid(), "b12500");
        RunwayLoom stuck = oneGroup();
        stuck.ice(0, 1999);
        stuck.setPads(0);
        c.same("30 on board of one without a cause", stuck.paid(), 2500);
    }

    private static void notPaid() {
        RunwayLoom x = oneGroup();
        x.tell('x', 0, 0, 5, 6);
        c.same("30 not for x", "" + x.lateness(0) + ' ' + x.paid(), "600 0");
        RunwayLoom y = oneGroup();
        y.slot(0, 700);
        c.same("30 not for s", "" + y.cause(0) + y.lateness(0) + ' ' + y.paid(), "s275 0");
        y.addGroup(1, -1, 20, 1, true);
        c.same("30 not for a root s", "" + y.cause(1) + y.root(1) + ' ' + y.lateness(1) + ' ' + y.paid(), "a0 275 0");
        RunwayLoom z = oneGroup();
        z.ice(400, 640);
        z.setPads(0);
        c.same("30 not for i", "" + z.cause(0) + z.lateness(0) + ' ' + z.paid(), "i221 0");
        RunwayLoom q = oneGroup();
        q.turnRunway(425);
        q.turnRunway(435);
        c.same("30 not late for q", "" + q.cause(0) + q.lateness(0) + ' ' + q.paid(), "q25 0");
        RunwayLoom w = oneGroup();
        w.addFlight(0, 1, 700, 1, 1);
        w.tell('x', 0, 0, 5, 6);
        c.same("30 the last flight that it took counts, not the cancelled one",
                "" + w.lastOf(0) + ' ' + w.cause(2) + w.paid(), "2 -2500");
    }

    private static void onTimeShare() {
        RunwayLoom none = new RunwayLoom();
        c.same("35 no flights", Check.outcome(() -> none.onTimeShare()), "ArithmeticException");
        RunwayLoom x = Check.outAndBack();
        c.same("35 all", x.onTimeShare(), 1.0f);
        x.addFlight(0, 2, 620, 0, 0);
        x.hold(2, 6);
        c.same("35 two of three", x.onTimeShare(), 2.0f / 3.0f);
        x.cancel(1);
        c.same("35 a cancelled one, and one behind it, count for all", x.onTimeShare(), 1.0f / 3.0f);
        x.hold(0, 30);
        c.same("35 none of them", x.onTimeShare(), 0.0f);
    }

    private static void meanLateness() {
        RunwayLoom x = Check.outAndBack();
        c.same("36 no groups", Check.outcome(() -> x.meanLateness()), "ArithmeticException");
        x.addGroup(0, -1, 2, 1, true);
        c.same("36 one", x.meanLateness(), 5.0);
        x.addGroup(1, -1, 1, 1, true);
        c.same("36 two", x.meanLateness(), 20.0 / 3.0);
        RunwayLoom empty = new RunwayLoom();
        c.same("36 nothing at all", Check.outcome(() -> empty.meanLateness()), "ArithmeticException");
    }
}
