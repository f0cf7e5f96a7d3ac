import java.util.ArrayList;
import java.util.Comparator;
import java.util.List;
import java.util.NoSuchElementException;

/**
 * The document once more, in another way: every minute of the day is run, everything is looked for anew each time,
 * and nothing is kept between two questions. It is slow and plain, so that the class can be measured against it.
 */
final class Model {
    static final class Plane { int family, airport, turn, seats, minutes, landings; boolean[] barred = new boolean[4]; }
    static final class Team { int airport, report, families; boolean rested; }
    static final class Leg { int from, to, off, plane, team, hold, wait; Integer slot; boolean toldOff; }
    static final class Party { int first, second, people, rank; boolean visa; }
    static final class Word { char kind; int leg, number, happened, comes; }

    final int[][] minutesBetween = new int[4][4];
    final List<Plane> planes = new ArrayList<>();
    final List<Team> teams = new ArrayList<>();
    final List<Leg> legs = new ArrayList<>();
    final List<Party> parties = new ArrayList<>();
    final List<Word> words = new ArrayList<>();
    final List<int[]> stands = new ArrayList<>();
    final List<Integer> turned = new ArrayList<>();
    int iceFirst = 1;
    int iceLast = 0;
    int pads = 1;

    Model() {
        for (int[] row : minutesBetween) {
            java.util.Arrays.fill(row, 60);
        }
    }

    static void index(boolean ok) { if (!ok) throw new IndexOutOfBoundsException(); }
    static void argument(boolean ok) { if (!ok) throw new IllegalArgumentException(); }
    static void support(boolean ok) { if (!ok) throw new UnsupportedOperationException(); }
    static void room(boolean ok) { if (!ok) throw new IllegalStateException(); }
    static void element(boolean ok) { if (!ok) throw new NoSuchElementException(); }
    static boolean in(int low, int number, int high) { return low <= number && number <= high; }
    void airport(int number) { index(in(0, number, 3)); }
    Leg leg(int number) { index(in(0, number, legs.size() - 1)); return legs.get(number); }

    int fly(int from, int to, int minutes) {
        airport(from); airport(to);
        argument(from != to && in(30, minutes, 300));
        int before = minutesBetween[from][to];
        minutesBetween[from][to] = minutesBetween[to][from] = minutes;
        return before;
    }

    int addAircraft(int family, int airport, int turn, int seats, int minutes, int landings) {
        airport(airport);
        argument(in(0, family, 2) && in(20, turn, 90) && in(1, seats, 300) && in(0, minutes, 2000)
                && in(0, landings, 20));
        room(planes.size() < 5);
        Plane p = new Plane();
        p.family = family; p.airport = airport; p.turn = turn; p.seats = seats; p.minutes = minutes;
        p.landings = landings;
        planes.add(p);
        return planes.size() - 1;
    }

    boolean fault(int aircraft, int airport) {
        index(in(0, aircraft, planes.size() - 1));
        airport(airport);
        boolean could = !planes.get(aircraft).barred[airport];
        planes.get(aircraft).barred[airport] = true;
        return could;
    }

    int addCrew(int airport, int report, int families, boolean rested) {
        airport(airport);
        argument(in(0, report, 1439) && in(1, families, 7));
        room(teams.size() < 5);
        Team t = new Team();
        t.airport = airport; t.report = report; t.families = families; t.rested = rested;
        teams.add(t);
        return teams.size() - 1;
    }

    int addStand(int family, boolean border) {
        argument(in(0, family, 2));
        room(stands.size() < 6);
        stands.add(new int[] {family, border ? 1 : 0});
        return stands.size() - 1;
    }

    int turnRunway(int minute) {
        argument(in(0, minute, 1999));
        room(turned.size() < 3);
        turned.add(minute);
        return turned.size();
    }

    int ice(int from, int to) {
        argument(in(0, from, 1999) && to <= 1999);
        iceFirst = from;
        iceLast = to;
        int minutes = 0;
        for (int m = from; m <= to; m++) minutes++;
        return minutes;
    }

    int setPads(int number) {
        argument(in(0, number, 3));
        int before = pads;
        pads = number;
        return before;
    }

    int addFlight(int from, int to, int off, int aircraft, int crew) {
        airport(from); airport(to);
        index(in(0, aircraft, planes.size() - 1));
        index(in(0, crew, teams.size() - 1));
        argument((from == 0 && to != 0 || from != 0 && to == 0) && in(0, off, 1439));
        room(legs.size() < 10);
        Leg l = new Leg();
        l.from = from; l.to = to; l.off = off; l.plane = aircraft; l.team = crew;
        legs.add(l);
        return legs.size() - 1;
    }

    int slot(int flight, int minute) {
        Leg l = leg(flight);
        support(l.from == 0);
        argument(in(0, minute, 1999));
        int before = l.slot == null ? -1 : l.slot;
        l.slot = minute;
        return before;
    }

    int trade(int flight, int other) {
        Leg a = leg(flight);
        Leg b = leg(other);
        support(a.slot != null && b.slot != null);
        Integer kept = a.slot;
        a.slot = b.slot;
        b.slot = kept;
        return a.slot;
    }

    int hold(int flight, int minutes) {
        Leg l = leg(flight);
        argument(in(0, minutes, 240));
        int before = l.hold;
        l.hold = minutes;
        return before;
    }

    int waitFor(int flight, int minutes) {
        Leg l = leg(flight);
        argument(in(0, minutes, 60));
        int before = l.wait;
        l.wait = minutes;
        return before;
    }

    int swap(int flight, int other) {
        Leg a = leg(flight);
        Leg b = leg(other);
        support(a.plane != b.plane && planes.get(a.plane).family == planes.get(b.plane).family);
        List<Leg> ofFirst = fromOnwards(flight);
        List<Leg> ofSecond = fromOnwards(other);
        int first = a.plane;
        int second = b.plane;
        for (Leg l : ofFirst) l.plane = second;
        for (Leg l : ofSecond) l.plane = first;
        return a.plane;
    }

    private List<Leg> fromOnwards(int flight) {
        List<Integer> order = new ArrayList<>();
        for (int i = 0; i < legs.size(); i++) if (legs.get(i).plane == legs.get(flight).plane) order.add(i);
        order.sort(Comparator.comparingInt((Integer i) -> legs.get(i).off).thenComparingInt(i -> i));
        List<Leg> onwards = new ArrayList<>();
        boolean reached = false;
        for (int i : order) {
            reached |= i == flight;
            if (reached) onwards.add(legs.get(i));
        }
        return onwards;
    }

    boolean cancel(int flight) {
        Leg l = leg(flight);
        boolean wasNot = !l.toldOff;
        l.toldOff = true;
        return wasNot;
    }

    int addGroup(int first, int second, int people, int rank, boolean visa) {
        leg(first);
        if (second != -1) leg(second);
        argument(in(1, people, 50) && in(0, rank, 2));
        support(second == -1 || leg(first).to == leg(second).from);
        room(parties.size() < 12);
        Party p = new Party();
        p.first = first; p.second = second; p.people = people; p.rank = rank; p.visa = visa;
        parties.add(p);
        return parties.size() - 1;
    }

    int tell(char kind, int flight, int number, int happened, int comes) {
        leg(flight);
        argument("hxf".indexOf(kind) >= 0 && (kind != 'h' || in(0, number, 240)) && in(0, happened, 1999)
                && in(happened, comes, 1999));
        room(words.size() < 10);
        Word w = new Word();
        w.kind = kind; w.leg = flight; w.number = number; w.happened = happened; w.comes = comes;
        words.add(w);
        return words.size();
    }

    char state(int flight) { leg(flight); return new Run().state[flight]; }

    int minuteOf(int flight, char event) {
        leg(flight);
        argument("DPTLE".indexOf(event) >= 0);
        int found = -1;
        for (Object[] e : new Run().events) {
            if ((Integer) e[2] == flight && (Character) e[1] == event) found = (Integer) e[0];
        }
        element(found >= 0);
        return found;
    }

    int standOf(int flight) {
        leg(flight);
        int stand = new Run().standGot[flight];
        element(stand >= 0);
        return stand;
    }

    char cause(int flight) {
        leg(flight);
        Run r = new Run();
        element(r.off[flight] >= 0 || r.state[flight] == 'x');
        return r.cause(flight);
    }

    int root(int flight) {
        leg(flight);
        Run r = new Run();
        element(r.off[flight] >= 0 || r.state[flight] == 'x');
        return r.root(flight);
    }

    void group(int number) { index(in(0, number, parties.size() - 1)); }
    int lateness(int group) { group(group); return new Run().late(group); }

    int lastOf(int group) {
        group(group);
        List<Integer> took = new Run().took.get(group);
        element(!took.isEmpty());
        return took.get(took.size() - 1);
    }

    boolean isStranded(int group) { group(group); return new Run().stranded[group]; }
    int lateBags() { return new Run().bagsLate; }
    int missed() { return new Run().missedSlots; }
    int harm() { return new Run().harm(); }
    int paid() { return new Run().paid(); }
    int logLength() { return new Run().text().length(); }

    char logAt(int index) {
        String text = new Run().text();
        index(in(0, index, text.length() - 1));
        return text.charAt(index);
    }

    private List<Integer> chosen(int flights) {
        List<Integer> list = new ArrayList<>();
        for (int i = 0; i < 32; i++) {
            if ((flights >>> i & 1) == 1) {
                argument(i < legs.size());
                list.add(i);
            }
        }
        support(in(1, list.size(), 3));
        return list;
    }

    /** Tries every plan of the flights from the n-th one on, in the document's order, and keeps the best in best. */
    private void tryPlans(List<Integer> list, int n, int[] plan, int[] best) {
        if (n == list.size()) {
            int harm = new Run().harm();
            if (best[3] < 0 || harm < best[3]) {
                System.arraycopy(plan, 0, best, 0, 3);
                best[3] = harm;
            }
            return;
        }
        Leg l = legs.get(list.get(n));
        int hold = l.hold;
        boolean toldOff = l.toldOff;
        for (int option = 0; option < 4; option++) {
            plan[n] = option;
            apply(l, option);
            tryPlans(list, n + 1, plan, best);
            l.hold = hold;
            l.toldOff = toldOff;
        }
    }

    private static void apply(Leg l, int option) {
        if (option == 1) l.hold = l.hold + 20 > 240 ? 240 : l.hold + 20;
        if (option == 2) l.hold = l.hold + 40 > 240 ? 240 : l.hold + 40;
        if (option == 3) l.toldOff = true;
    }

    int recover(int flights) {
        List<Integer> list = chosen(flights);
        int[] best = {0, 0, 0, -1};
        tryPlans(list, 0, new int[3], best);
        for (int n = 0; n < list.size(); n++) apply(legs.get(list.get(n)), best[n]);
        return best[3];
    }

    boolean isBest(int flights) {
        List<Integer> list = chosen(flights);
        int[] best = {0, 0, 0, -1};
        tryPlans(list, 0, new int[3], best);
        return new Run().harm() == best[3];
    }

    float onTimeShare() {
        if (legs.isEmpty()) throw new ArithmeticException();
        Run r = new Run();
        int good = 0;
        for (int f = 0; f < legs.size(); f++) if (r.off[f] >= 0 && r.cause(f) == '-') good++;
        return (float) good / (float) legs.size();
    }

    double meanLateness() {
        if (parties.isEmpty()) throw new ArithmeticException();
        Run r = new Run();
        int people = 0;
        int sum = 0;
        for (int g = 0; g < parties.size(); g++) {
            people += parties.get(g).people;
            sum += parties.get(g).people * r.late(g);
        }
        return (double) sum / (double) people;
    }

    boolean isSound() { return true; }

    /** One day. */
    final class Run {
        final int n = legs.size();
        final char[] state = new char[n];
        final int[] hold = new int[n];
        final int[] slot = new int[n];
        final int[] shut = new int[n];
        final int[] ready = new int[n];
        final int[] pad = new int[n];
        final int[] off = new int[n];
        final int[] down = new int[n];
        final int[] end = new int[n];
        final int[] standGot = new int[n];
        final int[][] spent = new int[n][5];
        final char[] why = new char[n];
        final int[] whom = new int[n];
        final boolean[][] barred = new boolean[planes.size()][];
        final int[] standHeldBy = new int[stands.size()];
        final int[] next = new int[parties.size()];
        final List<List<Integer>> took = new ArrayList<>();
        final boolean[] stranded = new boolean[parties.size()];
        final boolean[] arrives = new boolean[parties.size()];
        final boolean[] toRebook = new boolean[parties.size()];
        final boolean[] wordDone = new boolean[words.size()];
        final List<Object[]> events = new ArrayList<>();
        int runwayAt = -1000;
        int runwayFamily = 0;
        int bagsLate;
        int missedSlots;
        int now;

        Run() {
            for (int f = 0; f < n; f++) {
                Leg l = legs.get(f);
                state[f] = 's';
                hold[f] = l.hold;
                slot[f] = l.slot == null ? -1 : l.slot;
                shut[f] = ready[f] = off[f] = down[f] = end[f] = standGot[f] = whom[f] = -1;
                pad[f] = -1000;
            }
            for (int p = 0; p < barred.length; p++) barred[p] = planes.get(p).barred.clone();
            java.util.Arrays.fill(standHeldBy, -1);
            for (int g = 0; g < next.length; g++) {
                next[g] = parties.get(g).first;
                arrives[g] = parties.get(g).second == -1;
                took.add(new ArrayList<>());
            }
            for (now = 0; now < 2000; now++) {
                if (now == 0) {
                    for (int f = 0; f < n; f++) if (legs.get(f).toldOff) callOff(f, 'x');
                }
                messages();
                landing();
                standing();
                doors();
                icing();
                takingOff();
                rebooking();
            }
        }

        void event(char letter, int f) { events.add(new Object[] {now, letter, f}); }

        String text() {
            StringBuilder b = new StringBuilder();
            for (Object[] e : events) b.append(e[0]).append(e[1]).append(e[2]).append(';');
            return b.toString();
        }

        int minutes(int f) { return minutesBetween[legs.get(f).from][legs.get(f).to]; }
        int family(int f) { return planes.get(legs.get(f).plane).family; }
        int due(int f) { return legs.get(f).off + hold[f]; }
        boolean far(int f) { return legs.get(f).from >= 2 || legs.get(f).to >= 2; }

        List<Integer> in(char s, int[] key) {
            List<Integer> list = new ArrayList<>();
            for (int f = 0; f < n; f++) if (state[f] == s) list.add(f);
            list.sort(Comparator.comparingInt((Integer f) -> key[f]).thenComparingInt(f -> f));
            return list;
        }

        void callOff(int f, char letter) {
            state[f] = 'x';
            why[f] = letter;
            event(letter, f);
            for (int g = 0; g < next.length; g++) if (next[g] == f && !stranded[g]) toRebook[g] = true;
        }

        void messages() {
            for (int w = 0; w < words.size(); w++) {
                Word word = words.get(w);
                if (word.comes != now) continue;
                boolean old = false;
                for (int v = 0; v < words.size(); v++) {
                    Word other = words.get(v);
                    if (wordDone[v] && other.kind == word.kind && other.leg == word.leg
                            && other.happened > word.happened) old = true;
                }
                if (old) continue;
                wordDone[w] = true;
                if (word.kind == 'h') hold[word.leg] = word.number;
                if (word.kind == 'x' && state[word.leg] == 's') callOff(word.leg, 'x');
                if (word.kind == 'f') barred[legs.get(word.leg).plane][legs.get(word.leg).to] = true;
            }
        }

        boolean runwayFree(int f) {
            for (int t : turned) if (now >= t && now <= t + 9) return false;
            int apart = 2;
            for (int k = family(f); k < runwayFamily; k++) apart++;
            return now - runwayAt >= apart;
        }

        void onRunway(int f) {
            runwayAt = now;
            runwayFamily = family(f);
        }

        void landing() {
            int[] there = new int[n];
            for (int f = 0; f < n; f++) there[f] = off[f] + minutes(f);
            for (int f : in('a', there)) {
                if (there[f] > now) continue;
                if (legs.get(f).to != 0) {
                    state[f] = 'e';
                    end[f] = now;
                    event('E', f);
                } else if (runwayFree(f)) {
                    onRunway(f);
                    state[f] = 'w';
                    down[f] = now;
                    event('L', f);
                }
            }
        }

        void standing() {
            for (int f : in('w', down)) {
                if (now - down[f] < 5) continue;
                for (int s = 0; s < stands.size() && standGot[f] < 0; s++) {
                    boolean fits = stands.get(s)[0] >= family(f);
                    boolean border = legs.get(f).from < 2 || stands.get(s)[1] == 1;
                    if (standHeldBy[s] < 0 && fits && border) standGot[f] = s;
                }
                if (standGot[f] >= 0) standHeldBy[standGot[f]] = legs.get(f).plane;
                if (standGot[f] >= 0 || now - down[f] >= 60) {
                    state[f] = 'e';
                    end[f] = now;
                    event('E', f);
                }
            }
        }

        boolean ahead(int one, int other) {
            int d = legs.get(one).off - legs.get(other).off;
            return d < 0 || d == 0 && one < other;
        }

        /** The last flight of the same aircraft (or crew) that flew ahead of this one, or -1. */
        int lastFlown(int f, boolean ofPlane) {
            int last = -1;
            for (int g = 0; g < n; g++) {
                boolean same = ofPlane ? legs.get(g).plane == legs.get(f).plane : legs.get(g).team == legs.get(f).team;
                if (same && ahead(g, f) && off[g] >= 0 && (last < 0 || ahead(last, g))) last = g;
            }
            return last;
        }

        int flownBefore(int f) {
            int count = 0;
            for (int g = 0; g < n; g++) if (legs.get(g).team == legs.get(f).team && g != f && off[g] >= 0) count++;
            return count;
        }

        void doors() {
            int[] dues = new int[n];
            for (int f = 0; f < n; f++) dues[f] = due(f);
            for (int f : in('s', dues)) {
                if (due(f) > now) continue;
                Leg l = legs.get(f);
                Team team = teams.get(l.team);
                Plane plane = planes.get(l.plane);
                if (now - l.off >= 300) { callOff(f, 'l'); continue; }
                boolean open = false;
                for (int g = 0; g < n; g++) {
                    boolean shared = legs.get(g).plane == l.plane || legs.get(g).team == l.team;
                    if (shared && ahead(g, f) && state[g] != 'e' && state[g] != 'x') open = true;
                }
                if (open) continue;
                int a = lastFlown(f, true);
                int c = lastFlown(f, false);
                int planeAt = a < 0 ? plane.airport : legs.get(a).to;
                int teamAt = c < 0 ? team.airport : legs.get(c).to;
                if (planeAt != l.from || teamAt != l.from) { callOff(f, 'o'); continue; }
                if (a >= 0 && now < end[a] + plane.turn) continue;
                if (now < team.report + 45) continue;
                if (c >= 0 && now < end[c] + 15) continue;
                boolean missing = false;
                for (int g = 0; g < next.length; g++) if (next[g] == f && !stranded[g] && !present(g)) missing = true;
                if (missing && now < due(f) + l.wait) continue;
                int landings = flownBefore(f) + 1;
                int limit = (team.report >= 360 && team.report < 840 ? 660 : 600) - (team.rested ? 0 : 60);
                for (int k = 3; k <= landings; k++) limit -= 30;
                if ((team.families & 1 << plane.family) == 0) { callOff(f, 'k'); continue; }
                if (now + 10 + minutes(f) - team.report > limit) { callOff(f, 'k'); continue; }
                int left = plane.minutes;
                int landingsLeft = plane.landings;
                for (int g = 0; g < n; g++) {
                    if (legs.get(g).plane == l.plane && off[g] >= 0) {
                        left -= minutes(g);
                        landingsLeft--;
                    }
                }
                if (left < minutes(f) || landingsLeft <= 0) { callOff(f, 'm'); continue; }
                if (barred[l.plane][l.to]) { callOff(f, 'f'); continue; }
                shut(f, a, c);
            }
        }

        int presentFrom(int g) {
            if (took.get(g).isEmpty()) return 0;
            int before = took.get(g).get(took.get(g).size() - 1);
            return end[before] < 0 ? 9999 : end[before] + (far(before) || far(next[g]) ? 45 : 30);
        }

        int bagFrom(int g) {
            if (took.get(g).isEmpty()) return 0;
            int before = took.get(g).get(took.get(g).size() - 1);
            return end[before] < 0 ? 9999 : end[before] + (far(before) || far(next[g]) ? 50 : 25);
        }

        boolean present(int g) { return presentFrom(g) <= now; }

        List<Integer> byRank() {
            List<Integer> order = new ArrayList<>();
            for (int g = 0; g < parties.size(); g++) order.add(g);
            order.sort(Comparator.comparingInt((Integer g) -> parties.get(g).rank).thenComparingInt(g -> g));
            return order;
        }

        void shut(int f, int a, int c) {
            Leg l = legs.get(f);
            state[f] = 'd';
            shut[f] = now;
            event('D', f);
            int seats = planes.get(l.plane).seats;
            int latest = -1;
            int latestAfter = -1;
            int behind = 0;
            for (int g : byRank()) {
                if (next[g] != f || stranded[g]) continue;
                Party party = parties.get(g);
                if (present(g) && party.people <= seats) {
                    seats -= party.people;
                    if (bagFrom(g) > now) bagsLate++;
                    if (presentFrom(g) > latest) {
                        latest = presentFrom(g);
                        latestAfter = took.get(g).isEmpty() ? -1 : took.get(g).get(took.get(g).size() - 1);
                    }
                    took.get(g).add(f);
                    if (arrives[g]) {
                        next[g] = -1;
                    } else {
                        arrives[g] = true;
                        next[g] = party.second;
                        if (state[party.second] != 's') toRebook[g] = true;
                    }
                } else {
                    toRebook[g] = true;
                    if (bagFrom(g) <= now) behind++;
                }
            }
            ready[f] = now + 5 + 10 * behind;
            spent[f][0] = now - l.off;
            spent[f][1] = 10 * behind;
            for (int s = 0; s < standHeldBy.length; s++) if (standHeldBy[s] == l.plane) standHeldBy[s] = -1;
            int[] came = {a < 0 ? -1 : end[a] + planes.get(l.plane).turn, c < 0 ? -1 : end[c] + 15,
                latest > due(f) ? latest : -1, Math.max(due(f), teams.get(l.team).report + 45)};
            int[] after = {a, c, latestAfter, -1};
            int best = 0;
            for (int k = 1; k < 4; k++) if (came[k] > came[best]) best = k;
            why[f] = "acph".charAt(best);
            whom[f] = after[best];
        }

        boolean icy() { return now >= iceFirst && now <= iceLast; }

        void icing() {
            if (!icy()) return;
            for (int f : in('d', ready)) {
                if (legs.get(f).from != 0 || ready[f] > now) continue;
                boolean on = now < pad[f] + 10;
                if (on || now - (pad[f] + 10) <= 20) continue;
                int used = 0;
                for (int g = 0; g < n; g++) if (now < pad[g] + 10) used++;
                if (used >= pads) continue;
                pad[f] = now;
                event('P', f);
            }
        }

        void takingOff() {
            for (int f : in('d', ready)) {
                if (ready[f] > now) continue;
                if (legs.get(f).from == 0) {
                    boolean on = now < pad[f] + 10;
                    boolean off = now - (pad[f] + 10) <= 20;
                    if (on || icy() && !off) { spent[f][2]++; continue; }
                    if (slot[f] >= 0 && now < slot[f] - 5) { spent[f][3]++; continue; }
                    if (slot[f] >= 0 && now > slot[f] + 10) {
                        spent[f][3]++;
                        slot[f] = now + 20;
                        missedSlots++;
                        event('M', f);
                        continue;
                    }
                    if (!runwayFree(f)) { spent[f][4]++; continue; }
                    onRunway(f);
                }
                state[f] = 'a';
                off[f] = now;
                event('T', f);
            }
        }

        void rebooking() {
            for (int g : byRank()) {
                if (!toRebook[g]) continue;
                toRebook[g] = false;
                Party party = parties.get(g);
                int goal = legs.get(party.second < 0 ? party.first : party.second).to;
                int start = legs.get(next[g]).from;
                int best = -1;
                for (int f = 0; f < n; f++) {
                    if (state[f] != 's' || legs.get(f).from != start || legs.get(f).to != goal) continue;
                    if (goal >= 2 && !party.visa) continue;
                    int people = party.people;
                    for (int h = 0; h < next.length; h++) {
                        if (h != g && next[h] == f && !stranded[h]) people += parties.get(h).people;
                    }
                    if (planes.get(legs.get(f).plane).seats < people) continue;
                    if (best < 0 || due(f) < due(best)) best = f;
                }
                if (best < 0) {
                    stranded[g] = true;
                } else {
                    next[g] = best;
                    arrives[g] = true;
                }
            }
        }

        char cause(int f) {
            if (state[f] == 'x') return why[f];
            if (off[f] - 5 - legs.get(f).off <= 5) return '-';
            int best = 0;
            for (int k = 1; k < 5; k++) if (spent[f][k] > spent[f][best]) best = k;
            return best == 0 ? why[f] : "dbisq".charAt(best);
        }

        int root(int f) {
            char cause = cause(f);
            return cause == 'a' || cause == 'c' || cause == 'p' ? root(whom[f]) : f;
        }

        int late(int g) {
            Party party = parties.get(g);
            int booked = party.second < 0 ? party.first : party.second;
            if (stranded[g] || next[g] >= 0 || took.get(g).isEmpty()) return 600;
            int last = took.get(g).get(took.get(g).size() - 1);
            if (end[last] < 0) return 600;
            int late = end[last] - (legs.get(booked).off + minutes(booked));
            return late < 0 ? 0 : late > 600 ? 600 : late;
        }

        int harm() {
            int sum = 0;
            for (int g = 0; g < parties.size(); g++) sum += parties.get(g).people * late(g);
            for (int f = 0; f < n; f++) if (state[f] == 'x') sum += 3000;
            return sum;
        }

        int paid() {
            int sum = 0;
            for (int g = 0; g < parties.size(); g++) {
                if (late(g) < 180) continue;
                int f = stranded[g] ? next[g] : took.get(g).get(took.get(g).size() - 1);
                boolean known = off[f] >= 0 || state[f] == 'x';
                if (known && "isqx".indexOf(cause(root(f))) >= 0) continue;
                sum += 250 * parties.get(g).people;
            }
            return sum;
        }
    }
}
