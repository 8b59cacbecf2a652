/** Promises 22 and 23: if it breaks. */
final class BreaksTest {
    private BreaksTest() {
    }

    static void run() {
        refused();
        onAndBack();
        coldAheadWarmBehind();
        latestFirst();
        toldAhead();
        toTheHour();
        withoutLegs();
    }

    /** No LEAK, and a fifth of what the SEA is warmer comes in each HOUR. */
    private static ColdHolds open() {
        ColdHolds x = new ColdHolds();
        x.engine(0, 0);
        for (int cell = 0; cell < 12; cell++) {
            x.outer(cell, 20);
        }
        return x;
    }

    private static void refused() {
        ColdHolds x = new ColdHolds();
        Due.refuses(x, "lost(-1, 0)", -102, () -> x.lost(-1, 0));
        Due.refuses(x, "lost(301, 0)", -102, () -> x.lost(301, 0));
        Due.refuses(x, "lost(0, 2)", -102, () -> x.lost(0, 2));
        Due.refuses(x, "lost(0, -1)", -102, () -> x.lost(0, -1));
        Due.refuses(x, "way(-1)", -102, () -> x.way(-1));
        Due.refuses(x, "way(301)", -102, () -> x.way(301));
        Due.refuses(x, "lost(300, 1)", 0, () -> x.lost(300, 1));
        Due.is("way(300)", x.way(300), 0);
    }

    private static void onAndBack() {
        ColdHolds x = new ColdHolds();
        x.leg(30, 300);
        x.leg(30, 300);
        x.lot(3, 11);
        x.hours(10);
        // LAMB in a CELL that warms by 8, then less, an HOUR: lost in some 15 HOURS.
        Due.is("50 hours more", x.lost(0, 0), 1);
        Due.is("10 hours back", x.lost(0, 1), 1);
        ColdHolds y = new ColdHolds();
        y.leg(60, 150);
        y.lot(3, 11);
        y.hours(8);
        Due.refuses(y, "52 hours more", 1, () -> y.lost(0, 0));
        Due.refuses(y, "8 hours back: 16 in all, of 31 each", 0, () -> y.lost(0, 1));
        Due.is("back then", y.way(0), 1);
        Due.is("2 on, 10 back", y.lost(2, 1), 1);
        Due.is("of like ones on", y.way(2), 0);
    }

    private static void coldAheadWarmBehind() {
        // In the warm LEG a CARCASS rots by 337, back through it by more than 400; ahead by less than 200.
        ColdHolds x = open();
        x.leg(10, 400);
        x.leg(200, -50);
        x.lot(1, 5);
        x.hours(10);
        Due.is("cold ahead", x.lost(0, 0), 0);
        Due.is("warm behind", x.lost(0, 1), 1);
        Due.is("on", x.way(0), 0);
        ColdHolds y = open();
        y.leg(10, -50);
        y.leg(200, 400);
        y.lot(1, 5);
        y.hours(10);
        Due.is("warm ahead", y.lost(0, 0), 1);
        Due.is("cold behind", y.lost(0, 1), 0);
        Due.is("back", y.way(0), 1);
        Due.is("too far on to turn", y.lost(30, 1), 1);
        Due.is("on then", y.way(30), 0);
    }

    private static void latestFirst() {
        // Back over a warm HOUR at once, and cold ones behind it: the last warms what it would not, were it last.
        ColdHolds x = new ColdHolds();
        x.engine(0, 0);
        for (int cell = 0; cell < 12; cell++) {
            x.outer(cell, 10);
            x.warm(cell, -40);
        }
        x.leg(100, -50);
        x.leg(6, 400);
        x.lot(3, 5);
        x.hours(106);
        ColdHolds sim = new ColdHolds();
        sim.engine(0, 0);
        for (int cell = 0; cell < 12; cell++) {
            sim.outer(cell, 10);
            sim.warm(cell, -40);
        }
        sim.leg(100, -50);
        sim.leg(12, 400);
        sim.leg(100, -50);
        sim.lot(3, 5);
        sim.hours(212);
        Due.is("back as ahead, turned", x.lost(0, 1), sim.about(0, 3) == 3 ? 1 : 0);
        Due.is("that is lost", x.lost(0, 1), 1);
        Due.is("on: at the end", x.lost(0, 0), 0);
    }

    private static void toldAhead() {
        // Under the PIPE nothing spoils while the ENGINE runs.
        ColdHolds x = new ColdHolds();
        x.leg(100, 150);
        x.engine(0, 0);
        x.engine(1, 60);
        x.engine(3, 9999);
        x.warm(0, -300);
        x.lot(1, 0);
        Due.is("never broken in time", x.lost(100, 0), 0);
        Due.is("broken at once", x.lost(0, 0), 1);
        Due.is("broken late", x.lost(50, 0), 0);
        x.breaks(0);
        Due.is("broken ahead, as told", x.lost(300, 0), 1);
        Due.is("broken ahead, back too", x.lost(60, 1), 1);
        x.breaks(-1);
        Due.is("cold until it turns", x.lost(60, 1), 0);
        Due.is("no engine on a long way back", x.lost(100, 1), 1);
        Due.is("back at once", x.lost(0, 1), 0);
        x.breaks(100);
        Due.is("told behind: in 0", x.lost(0, 0), 1);
        x.engine(3, 0);
        Due.is("no coal", x.lost(100, 0), 1);
    }

    private static void toTheHour() {
        // 6 an HOUR for 100 HOURS, but nothing from the first HOUR on in which the ENGINE runs.
        ColdHolds x = open();
        x.outer(0, 0);
        x.warm(0, 10);
        x.engine(1, 60);
        x.engine(3, 9999);
        for (int leg = 0; leg < 5; leg++) {
            x.leg(16, 150);
        }
        x.leg(20, 150);
        x.lot(1, 0);
        Due.is("broken from now on", x.lost(0, 0), 1);
        Due.is("broken an hour on", x.lost(1, 0), 0);
        x.breaks(0);
        Due.is("told so", x.lost(1, 0), 1);
        Due.is("49 and 49", x.lost(49, 1), 0);
        Due.is("50 and 50", x.lost(50, 1), 1);
        x.hours(1);
        Due.is("99 hours left, one gone by", x.lost(0, 0), 1);
        Due.is("49 on, 50 back", x.lost(49, 1), 1);
        Due.is("48 on, 49 back", x.lost(48, 1), 0);
    }

    private static void withoutLegs() {
        ColdHolds x = new ColdHolds();
        x.lot(3, 11);
        Due.is("no hours left", x.lost(300, 0), 0);
        Due.is("9 on and 9 back", x.lost(9, 1), 0);
        Due.is("10 on and 10 back: 31 and more each", x.lost(10, 1), 1);
        x.hours(20);
        Due.is("lost already", x.lost(0, 0), 1);
        Due.is("lost already", x.way(0), 0);
        ColdHolds y = new ColdHolds();
        y.leg(1, 150);
        y.hours(5);
        y.lot(3, 11);
        Due.is("beyond all legs", y.lost(300, 0), 0);
        Due.is("5 back", y.lost(0, 1), 0);
        Due.is("8 on, 13 back", y.lost(8, 1), 1);
    }
}
