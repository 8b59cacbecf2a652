/** Promises 1 to 11: the hold. */
final class HoldTest {
    private HoldTest() {
    }

    static void run() {
        fresh();
        leg();
        cells();
        engine();
        breaks();
        sea();
        anHour();
        manyHours();
        first();
    }

    private static void fresh() {
        ColdHolds x = new ColdHolds();
        for (int cell = 0; cell < 12; cell++) {
            Due.is("warmth at first", x.warmth(cell), 100);
            Due.is("outer at first", x.outer(cell, 4), 4);
            Due.is("pipe at first", x.pipe(cell, cell == 0), cell == 0 ? 1 : 0);
        }
        Due.is("leak at first", x.engine(0, 5), 5);
        Due.is("cold at first", x.engine(1, 20), 20);
        Due.is("burn at first", x.engine(2, 1), 1);
        Due.is("coal at first", x.engine(3, 0), 0);
        for (int what = 0; what <= 12; what++) {
            Due.is("count at first", x.count(what), 0);
        }
        ColdHolds y = new ColdHolds();
        x.warm(0, 0);
        Due.is("another object is its own", y.warmth(0), 100);
    }

    private static void leg() {
        ColdHolds x = new ColdHolds();
        Due.refuses(x, "leg(0, 0)", -102, () -> x.leg(0, 0));
        Due.refuses(x, "leg(201, 0)", -102, () -> x.leg(201, 0));
        Due.refuses(x, "leg(1, -51)", -102, () -> x.leg(1, -51));
        Due.refuses(x, "leg(1, 401)", -102, () -> x.leg(1, 401));
        Due.is("leg 1", x.leg(1, -50), 1);
        Due.is("leg 2", x.leg(200, 400), 2);
        for (int i = 3; i <= 6; i++) {
            Due.is("leg " + i, x.leg(i, i), i);
        }
        Due.refuses(x, "leg 7", -104, () -> x.leg(1, 1));
        Due.refuses(x, "leg 7 outside", -102, () -> x.leg(0, 1));
        x.hours(1);
        Due.refuses(x, "leg, full and under way", -103, () -> x.leg(1, 1));
        Due.refuses(x, "leg outside, full and under way", -102, () -> x.leg(1, 999));
        Due.is("legs", x.count(0), 6);
    }

    private static void cells() {
        ColdHolds x = new ColdHolds();
        Due.is("warm to the least", x.warm(0, -300), 100);
        Due.is("warm to the most", x.warm(0, 600), -300);
        Due.is("warmth", x.warmth(0), 600);
        Due.is("warmth beside", x.warmth(1), 100);
        Due.is("warm(11)", x.warm(11, 0), 100);
        Due.refuses(x, "warm(12, 0)", -1001, () -> x.warm(12, 0));
        Due.refuses(x, "warm(-1, 601)", -1001, () -> x.warm(-1, 601));
        Due.refuses(x, "warm(0, 601)", -1002, () -> x.warm(0, 601));
        Due.refuses(x, "warm(0, -301)", -1002, () -> x.warm(0, -301));
        Due.refuses(x, "warmth(12)", -1001, () -> x.warmth(12));
        Due.refuses(x, "warmth(-1)", -1001, () -> x.warmth(-1));
        Due.is("outer", x.outer(11, 20), 4);
        Due.is("outer", x.outer(11, 0), 20);
        Due.is("outer", x.outer(11, 7), 0);
        Due.refuses(x, "outer(11, 21)", -102, () -> x.outer(11, 21));
        Due.refuses(x, "outer(11, -1)", -102, () -> x.outer(11, -1));
        Due.refuses(x, "outer(12, 21)", -101, () -> x.outer(12, 21));
        Due.refuses(x, "outer(-1, 4)", -101, () -> x.outer(-1, 4));
        Due.is("pipe taken", x.pipe(0, false), 1);
        Due.is("pipe laid", x.pipe(0, true), 0);
        Due.is("pipe laid in 11", x.pipe(11, true), 0);
        Due.is("pipe was laid in 11", x.pipe(11, true), 1);
        Due.refuses(x, "pipe(12)", -101, () -> x.pipe(12, true));
        Due.refuses(x, "pipe(-1)", -101, () -> x.pipe(-1, false));
    }

    private static void engine() {
        ColdHolds x = new ColdHolds();
        int[] least = {0, 0, 1, 0};
        int[] most = {20, 60, 9, 9999};
        int[] first = {5, 20, 1, 0};
        for (int i = 0; i < 4; i++) {
            int which = i;
            Due.is("engine most", x.engine(i, most[i]), first[i]);
            Due.is("engine least", x.engine(i, least[i]), most[i]);
            Due.refuses(x, "engine below", -102, () -> x.engine(which, least[which] - 1));
            Due.refuses(x, "engine above", -102, () -> x.engine(which, most[which] + 1));
            Due.is("engine is least", x.engine(i, first[i]), least[i]);
        }
        Due.refuses(x, "engine(4)", -101, () -> x.engine(4, -1));
        Due.refuses(x, "engine(-1)", -101, () -> x.engine(-1, 1));
        x.engine(3, 77);
        Due.is("coal", x.count(2), 77);
    }

    private static void breaks() {
        ColdHolds x = new ColdHolds();
        x.engine(3, 9999);
        Due.refuses(x, "breaks(-2)", -102, () -> x.breaks(-2));
        Due.refuses(x, "breaks(1201)", -102, () -> x.breaks(1201));
        Due.is("never at first", x.hours(7), 7);
        Due.is("breaks(3)", x.breaks(3), 1);
        Due.is("runs for 3", x.hours(5), 3);
        Due.is("coal of 10", x.count(2), 9989);
        Due.is("stays broken", x.hours(5), 0);
        Due.is("breaks(0)", x.breaks(0), 1);
        Due.is("broken now", x.hours(1), 0);
        Due.is("breaks(NONE)", x.breaks(-1), 1);
        Due.is("mended", x.hours(2), 2);
        Due.is("breaks(1200)", x.breaks(1200), 1);
        Due.is("far off", x.hours(300), 300);
        x.breaks(0);
        x.breaks(1);
        Due.is("told last", x.hours(2), 1);
    }

    private static void sea() {
        ColdHolds x = new ColdHolds();
        Due.is("no legs", x.sea(0), 150);
        Due.is("no legs", x.sea(9999), 150);
        Due.refuses(x, "sea(-1)", -1002, () -> x.sea(-1));
        Due.refuses(x, "sea(10000)", -1002, () -> x.sea(10000));
        x.leg(3, -50);
        x.leg(1, 400);
        x.leg(2, 7);
        int[] seas = {-50, -50, -50, 400, 7, 7, 7, 7};
        for (int hour = 0; hour < seas.length; hour++) {
            Due.is("sea", x.sea(hour), seas[hour]);
        }
        Due.is("the last goes on", x.sea(9999), 7);
        x.hours(2);
        Due.is("sea of an hour gone by", x.sea(0), -50);
        ColdHolds y = new ColdHolds();
        y.leg(1, 400);
        y.leg(1, -50);
        y.hours(1);
        Due.is("hour 0 in the first leg", y.warmth(0), 112);
        y.hours(1);
        Due.is("hour 1 in the second", y.warmth(0), 112 + Math.floorDiv(4 * -162, 100));
    }

    private static void anHour() {
        ColdHolds x = new ColdHolds();
        Due.is("no coal", x.hours(1), 0);
        for (int cell = 0; cell < 12; cell++) {
            Due.is("4 of 50", x.warmth(cell), 102);
        }
        ColdHolds cold = new ColdHolds();
        cold.engine(3, 1);
        Due.is("coal for one", cold.hours(2), 1);
        Due.is("coal", cold.count(2), 0);
        // HOUR 0: 82 under the PIPE, 102 else; HOUR 1: 82 + (5*40 + 4*68)/100, 102 + (5*-20 + 4*48)/100.
        Due.is("under the pipe", cold.warmth(0), 86);
        Due.is("beside it", cold.warmth(1), 102);
        Due.is("below it", cold.warmth(4), 102);
        Due.is("aslant of it", cold.warmth(5), 103);
        ColdHolds spread = new ColdHolds();
        spread.warm(5, 300);
        spread.hours(1);
        int[] due = {102, 112, 102, 102, 112, 254, 112, 102, 102, 112, 102, 102};
        for (int cell = 0; cell < 12; cell++) {
            Due.is("from cell 5 to " + cell, spread.warmth(cell), due[cell]);
        }
        ColdHolds edge = new ColdHolds();
        edge.warm(3, 300);
        edge.hours(1);
        int[] rim = {102, 102, 112, 300 + Math.floorDiv(5 * -400 + 4 * -150, 100), 102, 102, 102, 112, 102, 102, 102, 102};
        for (int cell = 0; cell < 12; cell++) {
            Due.is("from cell 3 to " + cell, edge.warmth(cell), rim[cell]);
        }
        ColdHolds down = new ColdHolds();
        for (int cell = 0; cell < 12; cell++) {
            down.warm(cell, 151);
        }
        down.outer(7, 0);
        down.hours(1);
        Due.is("rounded down below 0", down.warmth(0), 150);
        Due.is("no outer wall", down.warmth(7), 151);
    }

    private static void manyHours() {
        ColdHolds x = new ColdHolds();
        x.engine(0, 0);
        x.engine(1, 60);
        x.engine(2, 9);
        x.engine(3, 27);
        x.outer(0, 0);
        x.warm(0, -150);
        Due.is("9 of 27 each", x.hours(5), 3);
        Due.is("not below -300", x.warmth(0), -300);
        x.engine(3, 8);
        Due.is("8 are not 9", x.hours(1), 0);
        x.engine(3, 9);
        Due.is("9 are", x.hours(1), 1);
        Due.refuses(x, "hours(0)", -102, () -> x.hours(0));
        Due.refuses(x, "hours(301)", -102, () -> x.hours(301));
        Due.refuses(x, "hours(-1)", -102, () -> x.hours(-1));
        x.hours(300);
        x.hours(300);
        x.hours(300);
        Due.is("gone by", x.count(1), 907);
        Due.refuses(x, "hours(294)", -103, () -> x.hours(294));
        Due.refuses(x, "hours(301), too many anyway", -102, () -> x.hours(301));
        Due.is("hours(293)", x.hours(293), 0);
        Due.refuses(x, "hours(1) behind 1200", -103, () -> x.hours(1));
    }

    private static void first() {
        ColdHolds x = new ColdHolds();
        Due.refuses(x, "first(601)", -102, () -> x.first(601, 0));
        Due.refuses(x, "first(-301)", -102, () -> x.first(-301, 0));
        Due.refuses(x, "first(0, 301)", -102, () -> x.first(0, 301));
        Due.refuses(x, "first(0, -1)", -102, () -> x.first(0, -1));
        Due.is("not above 100 now", x.first(100, 0), -1);
        Due.is("above 99 now", x.first(99, 0), 0);
        Due.is("now comes first", x.first(99, 300), 0);
        Due.is("102 in one hour", x.first(101, 1), 1000);
        Due.is("not above 102", x.first(102, 1), -1);
        Due.is("never above the sea", x.first(150, 300), -1);
        x.engine(3, 3);
        Due.refuses(x, "with coal, beside the pipe", 1001, () -> x.first(101, 5));
        x.breaks(0);
        Due.is("broken", x.first(101, 5), 1000);
        x.breaks(-1);
        x.warm(8, 101);
        Due.is("now in cell 8", x.first(100, 0), 8);
        x.warm(6, 120);
        x.warm(9, 130);
        Due.is("of like ones the least", x.first(119, 9), 6);
        Due.is("the only one", x.first(120, 0), 9);
        ColdHolds y = new ColdHolds();
        y.leg(2, 100);
        y.leg(1, 400);
        Due.is("when the sea is warm", y.first(100, 300), 3000);
        y.hours(2);
        Due.is("counted from now", y.first(100, 300), 1000);
        ColdHolds coal = new ColdHolds();
        coal.leg(1, 100);
        coal.engine(0, 0);
        coal.outer(0, 20);
        coal.engine(1, 1);
        coal.engine(3, 9999);
        coal.warm(0, 101);
        Due.is("cold all along", coal.first(101, 300), -1);
    }
}
