/** A morning on which the first flight is held, and what comes of it. */
public final class Morning {
    public static void main(String[] args) {
        RunwayLoom loom = new RunwayLoom();
        int plane = loom.addAircraft(1, 0, 30, 60, 900, 9);
        int crew = loom.addCrew(0, 360, 7, true);
        int otherPlane = loom.addAircraft(1, 0, 30, 40, 900, 9);
        int otherCrew = loom.addCrew(0, 360, 7, false);
        loom.addStand(1, true);
        int out = loom.addFlight(0, 1, 420, plane, crew);
        int back = loom.addFlight(1, 0, 520, plane, crew);
        int on = loom.addFlight(0, 2, 620, otherPlane, otherCrew);
        int connecting = loom.addGroup(back, on, 10, 1, true);
        loom.addGroup(out, -1, 25, 2, false);
        loom.tell('h', out, 40, 400, 410);

        for (int i = 0; i < loom.logLength(); i++) {
            System.out.print(loom.logAt(i));
        }
        System.out.println();
        System.out.println("flight " + back + " has the cause " + loom.cause(back) + ", its root is " + loom.root(back));
        System.out.println("group " + connecting + " is stranded: " + loom.isStranded(connecting));
        System.out.println("harm " + loom.harm() + ", paid " + loom.paid());

        loom.waitFor(on, 60);
        System.out.println("with a wait: harm " + loom.harm() + ", flight " + on + " takes off at "
                + loom.minuteOf(on, 'T') + " for the cause " + loom.cause(on));
        System.out.println("the best for flight " + on + ": " + loom.isBest(1 << on));
        loom.waitFor(on, 10);
        System.out.println("with a shorter one, and its plan changed: harm " + loom.recover(1 << on)
                + ", its hold was " + loom.hold(on, 40));
        System.out.println("lawful: " + loom.isSound());
    }
}
