/** Ice, take-offs and booking anew at the minute or the number that the document names, and at both its neighbours. */
public final class GroundTest {
    private static final Check c = new Check();

    public static void main(String[] args) {
        whenThereIsIce();
        pads();
        padsOneByOne();
        padsInLine();
        onAPad();
        leftAPad();
        iceElsewhere();
        windowsOfSlots();
        missedSlots();
        whatKeepsFirst();
        takeOffsInLine();
        bookedInTime();
        bookedByClass();
        bookedByDue();
        bookedWithVisa();
        bookedWithSeats();
        bookedFromThereToThere();
        bookedTwice();
        c.end("GroundTest");
    }

    private static String log(RunwayLoom x, int flight) {
        return Check.log(x, flight);
    }

    private static String minute(RunwayLoom x, int flight, char event) {
        return Check.outcome(() -> x.minuteOf(flight, event)).replace("NoSuchElementException", "none");
    }

    /** Flights out that are ready at 425. */
    private static RunwayLoom ready(int flights) {
        RunwayLoom x = new RunwayLoom();
        for (int i = 0; i < flights; i++) {
            Check.add(x, 0, 1, 420);
        }
        return x;
    }

    private static RunwayLoom iced(int from, int to) {
        RunwayLoom x = ready(1);
        x.ice(from, to);
        return x;
    }

    private static void whenThereIsIce() {
        c.same("step 5 from the first minute of ice on",
                Check.each(from -> minute(iced(from, 430), 0, 'P'), 423, 424, 425, 426), "425 425 425 none");
        c.same("step 5 to the last minute of ice",
                Check.each(to -> minute(iced(400, to), 0, 'P'), 423, 424, 425, 426, 1999), "none none 425 425 425");
        c.same("step 6 no ice any more, or not yet",
                Check.each(to -> minute(iced(424, to), 0, 'T'), 423, 424, 425), "425 425 435");
        c.same("step 5 none, one minute, two minutes",
                Check.each(to -> minute(iced(425, to), 0, 'T'), Integer.MIN_VALUE, 424, 425, 426), "425 425 435 435");
        c.same("step 6 without a pad, till there is no ice", Check.each(to -> {
            RunwayLoom x = iced(400, to);
            x.setPads(0);
            return minute(x, 0, 'T');
        }, 424, 425, 426, 1998, 1999), "425 426 427 1999 none");
        c.same("step 5 a pad in the last minute, and no take-off", log(late(1999), 0), "420D0;1994P0;");
        c.same("step 5 just no ice any more", log(late(1993), 0), "420D0;1994T0;");
    }

    /** A flight is kept by its slot till 1994, and ice comes then. */
    private static RunwayLoom late(int to) {
        RunwayLoom x = ready(1);
        x.ice(1994, to);
        x.slot(0, 1999);
        return x;
    }

    private static void pads() {
        String[] due = {"none none none none", "425 435 445 455", "425 425 435 435", "425 425 425 435"};
        for (int pads = 0; pads <= 3; pads++) {
            RunwayLoom x = ready(4);
            x.ice(400, 470);
            x.setPads(pads);
            c.same("step 5 " + pads + " pads", Check.each(flight -> minute(x, flight, 'P'), 0, 1, 2, 3), due[pads]);
        }
        RunwayLoom x = ready(5);
        x.ice(400, 444);
        x.setPads(2);
        c.same("step 5 a pad is free in the 10th minute behind, if there is ice then",
                Check.each(flight -> minute(x, flight, 'P'), 0, 1, 2, 3, 4), "425 425 435 435 none");
        x.ice(400, 445);
        c.same("step 5 there is ice then", minute(x, 4, 'P'), "445");
    }

    private static void padsOneByOne() {
        for (int pads = 1; pads <= 3; pads++) {
            RunwayLoom x = new RunwayLoom();
            for (int i = 0; i < 4; i++) {
                Check.add(x, 0, 1, 420 + i);
            }
            x.ice(400, 470);
            x.setPads(pads);
            String[] due = {"425 435 445 455", "425 426 435 436", "425 426 427 435"};
            c.same("step 5 " + pads + " pads, one by one", Check.each(flight -> minute(x, flight, 'P'), 0, 1, 2, 3),
                    due[pads - 1]);
        }
    }

    private static void padsInLine() {
        c.same("step 5 by when they were ready, then by numbers", Check.each(off -> {
            RunwayLoom x = new RunwayLoom();
            Check.add(x, 0, 1, 420);
            Check.add(x, 0, 1, off);
            x.ice(426, 460);
            x.turnRunway(420);
            return minute(x, 0, 'P') + '/' + minute(x, 1, 'P');
        }, 419, 420, 421), "436/426 426/436 426/436");
        c.same("step 5 ready, not shut", Check.each(groups -> {
            RunwayLoom x = ready(2);
            for (int i = 0; i < groups; i++) {
                x.addGroup(0, -1, 41, 0, true);
            }
            x.ice(400, 470);
            return minute(x, 0, 'P') + '/' + minute(x, 1, 'P');
        }, 0, 1, 2), "425/435 435/425 445/425");
        c.same("step 5 when it was ready counts for its second pad, too", Check.each(off -> {
            RunwayLoom x = new RunwayLoom();
            Check.add(x, 0, 1, 420);
            Check.add(x, 0, 1, off);
            x.slot(0, 480);
            x.ice(400, 600);
            return minute(x, 0, 'P') + '/' + minute(x, 1, 'P');
        }, 450, 451, 452), "465/455 456/466 456/466");
    }

    private static void onAPad() {
        c.same("step 6 on a pad for 10 minutes, though there is ice or not",
                Check.each(to -> minute(iced(425, to), 0, 'T'), 425, 434, 435, 436, 1000), "435 435 435 435 435");
        RunwayLoom x = iced(425, 425);
        x.slot(0, 434);
        c.same("step 6 the slot is looked at behind the pad", log(x, 0), "420D0;425P0;435T0;495E0;");
        x.slot(0, 424);
        c.same("step 6 and missed then", log(x, 0), "420D0;425P0;435M0;450T0;510E0;");
    }

    private static RunwayLoom icedWithSlot(int to, int slot) {
        RunwayLoom x = iced(400, to);
        x.slot(0, slot);
        return x;
    }

    private static void leftAPad() {
        c.same("step 6 left 19, 20, 21 and 22 minutes ago",
                Check.each(slot -> log(icedWithSlot(600, slot), 0), 459, 460, 461, 462),
                "420D0;425P0;454T0;514E0; 420D0;425P0;455T0;515E0; 420D0;425P0;456P0;466T0;526E0; "
                + "420D0;425P0;456P0;466T0;526E0;");
        c.same("step 5 left 21 minutes ago, and no ice then",
                Check.each(to -> log(icedWithSlot(to, 461), 0), 455, 456),
                "420D0;425P0;456T0;516E0; 420D0;425P0;456P0;466T0;526E0;");
        c.same("step 5 the second pad was left 20 or 21 minutes ago",
                Check.each(slot -> log(icedWithSlot(900, slot), 0), 491, 492),
                "420D0;425P0;456P0;486T0;546E0; 420D0;425P0;456P0;487P0;497T0;557E0;");
        RunwayLoom x = iced(400, 900);
        x.slot(0, 700);
        c.same("20 the last one of several pads", minute(x, 0, 'P'), "673");
        RunwayLoom y = new RunwayLoom();
        y.setPads(3);
        y.ice(0, 1999);
        Check.add(y, 0, 1, 420);
        y.slot(0, 1999);
        c.same("step 5 as many pads as the day allows", Check.log(y).length(), 6 + 19 * 6 + 32 * 7 + 7);
    }

    private static void iceElsewhere() {
        RunwayLoom x = new RunwayLoom();
        Check.add(x, 1, 0, 420);
        Check.add(x, 0, 1, 420);
        x.ice(0, 1999);
        c.same("step 5 just flights at home", Check.log(x).substring(0, 30), "420D0;420D1;425P1;425T0;435T1;");
        RunwayLoom y = new RunwayLoom();
        Check.add(y, 1, 0, 420);
        y.turnRunway(420);
        y.ice(0, 1999);
        y.setPads(0);
        c.same("step 6 elsewhere it takes off as it is ready", minute(y, 0, 'T'), "425");
    }

    private static RunwayLoom withSlot(int slot) {
        RunwayLoom x = ready(1);
        x.slot(0, slot);
        return x;
    }

    private static void windowsOfSlots() {
        c.same("step 6 ahead of the slot less 5",
                Check.each(slot -> minute(withSlot(slot), 0, 'T'), 429, 430, 431, 432, 1000), "425 425 426 427 995");
        c.same("step 6 behind the slot plus 10",
                Check.each(slot -> minute(withSlot(slot), 0, 'T'), 413, 414, 415, 416), "440 440 425 425");
        c.same("28 ahead, in time and behind",
                Check.each(slot -> withSlot(slot).missed(), 0, 413, 414, 415, 416, 430, 431, 1999), "1 1 1 0 0 0 0 0");
        c.same("step 6 from 5 minutes ahead to 10 behind", Check.each(slot -> {
            RunwayLoom x = withSlot(slot);
            x.turnRunway(425);
            return log(x, 0);
        }, 424, 425, 426), "420D0;435M0;450T0;510E0; 420D0;435T0;495E0; 420D0;435T0;495E0;");
    }

    private static void missedSlots() {
        c.same("step 6 the slot becomes this minute plus 20, less 5",
                Check.each(slot -> log(withSlot(slot), 0), 0, 414), "420D0;425M0;440T0;500E0; ".repeat(2).trim());
        c.same("step 6 it is missed again behind its 10 minutes", Check.each(turn -> {
            RunwayLoom x = withSlot(414);
            x.turnRunway(turn);
            x.turnRunway(turn + 10);
            return log(x, 0) + x.missed();
        }, 435, 436), "420D0;425M0;455T0;515E0;1 420D0;425M0;456M0;471T0;531E0;2");
        RunwayLoom two = ready(2);
        two.slot(0, 400);
        two.slot(1, 414);
        c.same("28 of two flights", Check.log(two).substring(0, 36), "420D0;420D1;425M0;425M1;440T0;442T1;");
        c.same("28 both", two.missed(), 2);
        c.same("11 the slot that was told is as it was", "" + two.slot(0, 5) + two.slot(1, 5), "400414");
        two.ice(425, 425);
        c.same("28 as it leaves the pad, or as the ice is gone", Check.log(two).substring(12, 30), "425P0;426M1;435M0;");
    }

    private static void whatKeepsFirst() {
        RunwayLoom x = ready(1);
        x.ice(400, 440);
        x.setPads(0);
        x.slot(0, 450);
        x.turnRunway(440);
        c.same("step 6 ice till 440, the slot till 444, the runway till 449", log(x, 0), "420D0;450T0;510E0;");
        RunwayLoom y = ready(1);
        y.ice(400, 440);
        y.setPads(0);
        y.slot(0, 420);
        c.same("step 6 no slot is missed while there is ice", log(y, 0), "420D0;441M0;456T0;516E0;");
        RunwayLoom z = withSlot(414);
        z.turnRunway(420);
        c.same("step 6 a slot is missed, though the runway is closed", log(z, 0), "420D0;425M0;440T0;500E0;");
    }

    private static void takeOffsInLine() {
        c.same("step 6 by when they were ready, then by numbers", Check.each(off -> {
            RunwayLoom x = ready(1);
            Check.add(x, 0, 1, off);
            return minute(x, 0, 'T') + '/' + minute(x, 1, 'T');
        }, 419, 420, 421), "426/424 425/427 425/427");
        RunwayLoom kept = ready(2);
        kept.slot(0, 450);
        c.same("step 6 one that is kept for its slot keeps no others", minute(kept, 1, 'T'), "425");
        RunwayLoom small = new RunwayLoom();
        Check.addOf(small, 0, 0, 1, 420);
        Check.addOf(small, 2, 0, 1, 421);
        Check.addOf(small, 2, 0, 1, 419);
        c.same("step 6 a large one goes ahead of a small one that is to wait longer",
                minute(small, 0, 'T') + '/' + minute(small, 1, 'T'), "430/426");
        RunwayLoom line = ready(5);
        line.turnRunway(421);
        c.same("step 6 many in line", Check.each(flight -> minute(line, flight, 'T'), 0, 1, 2, 3, 4),
                "431 433 435 437 439");
    }

    private static String taken(RunwayLoom x, int group) {
        return Check.outcome(() -> x.lastOf(group)).replace("NoSuchElementException", "none")
                + (x.isStranded(group) ? "!" : "");
    }

    /** Flight 0 has a group, and is cancelled by a message in a minute; flight 1 is off at a minute. */
    private static RunwayLoom cancelled(int off, int comes, int otherOff) {
        RunwayLoom x = new RunwayLoom();
        Check.add(x, 0, 1, off);
        Check.add(x, 0, 1, otherOff);
        x.addGroup(0, -1, 10, 1, false);
        x.tell('x', 0, 0, 0, comes);
        return x;
    }

    private static void bookedInTime() {
        c.same("step 7 behind the doors of that minute",
                Check.each(comes -> taken(cancelled(600, comes, 420), 0), 0, 418, 419, 420, 421),
                "1 1 1 none! none!");
        c.same("step 7 those who stayed behind, behind the doors of that minute", Check.each(off -> {
            RunwayLoom x = ready(1);
            Check.add(x, 0, 1, off);
            x.addGroup(0, -1, 10, 1, true);
            x.addGroup(0, -1, 31, 0, true);
            return taken(x, 0);
        }, 419, 420, 421), "none! none! 1");
        RunwayLoom ahead = cancelled(600, 500, 700);
        ahead.cancel(0);
        c.same("step 7 told ahead", taken(ahead, 0), "1");
        RunwayLoom both = cancelled(600, 500, 700);
        both.tell('x', 1, 0, 0, 500);
        c.same("step 7 both are cancelled in that minute", taken(both, 0), "none!");
        RunwayLoom letters = cancelled(600, 1500, 700);
        letters.fault(0, 1);
        c.same("step 7 cancelled at the doors", taken(letters, 0), "1");
    }

    private static void bookedByClass() {
        for (int rank = 0; rank <= 2; rank++) {
            RunwayLoom x = cancelled(600, 500, 700);
            x.addGroup(0, -1, 31, rank, true);
            c.same("step 7 by class, then by numbers: 1 and " + rank, taken(x, 0) + ' ' + taken(x, 1),
                    rank == 0 ? "none! 1" : "1 none!");
        }
        RunwayLoom x = cancelled(600, 500, 700);
        x.addGroup(0, -1, 40, 2, true);
        x.addGroup(0, -1, 40, 0, true);
        c.same("step 7 the best class is not the first number", taken(x, 0) + taken(x, 1) + taken(x, 2), "none!none!1");
    }

    private static void bookedByDue() {
        c.same("step 7 due first, then the lowest number", Check.each(off -> {
            RunwayLoom x = cancelled(600, 300, 500);
            Check.add(x, 0, 1, off);
            return taken(x, 0);
        }, 498, 499, 500, 501), "2 2 1 1");
        c.same("step 7 a hold counts", Check.each(hold -> {
            RunwayLoom x = cancelled(600, 300, 500);
            Check.add(x, 0, 1, 505);
            x.hold(1, hold);
            return taken(x, 0);
        }, 4, 5, 6), "1 1 2");
        c.same("step 7 a hold by a message counts, if it has come", Check.each(comes -> {
            RunwayLoom x = cancelled(600, 300, 500);
            Check.add(x, 0, 1, 505);
            x.tell('h', 1, 6, 0, comes);
            return taken(x, 0);
        }, 299, 300, 301), "2 2 1");
        RunwayLoom first = new RunwayLoom();
        Check.add(first, 0, 1, 500);
        Check.add(first, 0, 1, 600);
        first.addGroup(1, -1, 10, 1, true);
        first.cancel(1);
        c.same("step 7 one that is due ahead of the one that is cancelled, too", taken(first, 0), "0");
    }

    private static void bookedWithVisa() {
        for (int to = 1; to <= 3; to++) {
            for (int visa = 0; visa <= 1; visa++) {
                RunwayLoom x = new RunwayLoom();
                Check.add(x, 0, to, 500);
                Check.add(x, 0, to, 600);
                Check.add(x, to, 0, 500);
                Check.add(x, to, 0, 600);
                x.addGroup(0, -1, 10, 1, visa == 1);
                x.addGroup(2, -1, 10, 1, visa == 1);
                x.cancel(0);
                x.cancel(2);
                c.same("step 7 to " + to + ", visa " + visa, taken(x, 0), to == 1 || visa == 1 ? "1" : "none!");
                c.same("step 7 from " + to + ", visa " + visa, taken(x, 1), "3");
            }
        }
        RunwayLoom x = new RunwayLoom();
        Check.add(x, 0, 3, 500);
        x.addGroup(0, -1, 10, 1, false);
        c.same("step 4 the flight that was booked at first needs none", taken(x, 0), "0");
    }

    private static void bookedWithSeats() {
        c.same("step 7 seats for the group, without others", Check.each(people -> {
            RunwayLoom x = cancelled(600, 300, 500);
            x.addGroup(0, -1, people, 0, true);
            return taken(x, 1);
        }, 39, 40, 41), "1 1 none!");
        c.same("step 7 seats for those who were booked ahead, too", Check.each(people -> {
            RunwayLoom x = new RunwayLoom();
            Check.add(x, 0, 1, 600);
            Check.add(x, 0, 1, 500);
            x.addGroup(1, -1, people, 2, true);
            x.addGroup(0, -1, 10, 0, true);
            x.cancel(0);
            return taken(x, 1);
        }, 29, 30, 31), "1 1 none!");
        c.same("step 7 seats for those who are booked, too", Check.each(people -> {
            RunwayLoom x = cancelled(600, 300, 500);
            x.addGroup(1, -1, 10, 2, true);
            x.addGroup(1, -1, people, 2, true);
            return taken(x, 0);
        }, 19, 20, 21), "1 1 none!");
        c.same("step 7 the next one that has seats", Check.each(people -> {
            RunwayLoom x = cancelled(600, 300, 500);
            Check.add(x, 0, 1, 501);
            x.addGroup(1, -1, people, 2, true);
            return taken(x, 0);
        }, 29, 30, 31), "1 1 2");
        c.same("step 7 a group that is to take another one first has no seats there yet", Check.each(off -> {
            RunwayLoom x = cancelled(600, 421, 560);
            int first = Check.add(x, 1, 0, off);
            x.addGroup(first, 1, 31, 2, true);
            return taken(x, 0);
        }, 420, 421, 422), "none! none! 1");
    }

    private static void bookedFromThereToThere() {
        RunwayLoom x = cancelled(600, 300, 800);
        Check.add(x, 0, 2, 500);
        Check.add(x, 1, 0, 500);
        Check.add(x, 0, 3, 400);
        c.same("step 7 none to elsewhere, nor from elsewhere", taken(x, 0), "1");
        RunwayLoom y = new RunwayLoom();
        Check.add(y, 1, 0, 500);
        Check.add(y, 0, 1, 700);
        Check.add(y, 1, 0, 600);
        Check.add(y, 0, 1, 800);
        y.addGroup(0, 1, 10, 1, true);
        y.cancel(0);
        c.same("step 7 none from where the first one was to start to where the last one led", taken(y, 0), "none!");
    }

    private static void bookedTwice() {
        RunwayLoom x = cancelled(600, 300, 500);
        int third = Check.add(x, 0, 1, 550);
        x.tell('x', 1, 0, 0, 400);
        c.same("step 7 booked anew twice", taken(x, 0), "" + third);
        c.same("24 since the first booking", x.lateness(0), 0);
        x.tell('x', third, 0, 0, 401);
        c.same("step 7 and then stranded", taken(x, 0), "none!");
        RunwayLoom y = new RunwayLoom();
        y.addStand(1, true);
        Check.add(y, 1, 0, 420);
        for (int i = 0; i < 4; i++) {
            Check.add(y, 0, 1, 450 + 20 * i);
        }
        y.addGroup(0, 1, 10, 1, true);
        c.same("step 7 it stays behind again and again, till it is present", taken(y, 0), "0!");
        y.hold(4, 10);
        c.same("step 7 it is present at the last one", taken(y, 0), "4");
        c.same("24 the second flight that was booked at first counts", y.lateness(0), 520 + 5 + 60 - 450 - 60);
    }
}
