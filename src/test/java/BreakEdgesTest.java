/** Promises 22 and 23 at their edges: from which HOUR on nothing cools, how many HOURS are left, how many are gone. */
final class BreakEdgesTest {
    private BreakEdgesTest() {
    }

    static void run() {
        justLost();
        nothingOrAllLost();
        hoursLeft();
        hoursBack();
        seasBack();
        theLessOfTwo();
        brokenAsTold();
        coalOnTheWay();
        behindAllHours();
    }

    /** CELLS that keep the WARMTH they have, but under the PIPE of CELL 0. */
    private static ColdHolds still(int warmth) {
        ColdHolds x = new ColdHolds();
        x.engine(0, 0);
        for (int cell = 0; cell < 12; cell++) {
            x.outer(cell, 0);
            x.warm(cell, warmth);
        }
        return x;
    }

    private static void justLost() {
        // BUTTER at 101 spoils by 1 an HOUR: lost by 600 HOURS, not by 599.
        ColdHolds x = still(101);
        x.leg(200, 150);
        x.leg(200, 150);
        x.leg(199, 150);
        x.lot(5, 3);
        Due.is("599 HOURS to go", x.lost(0, 0), 0);
        x.leg(1, 150);
        Due.is("600 HOURS to go", x.lost(0, 0), 1);
        Due.is("299 on, 299 back", x.lost(299, 1), 0);
        Due.is("300 on, 300 back", x.lost(300, 1), 1);
        Due.is("on is no better", x.way(300), 0);
        Due.is("back is better", x.way(299), 1);
        Due.is("nothing was spoilt by it", x.about(0, 2), 0);
        x.hours(1);
        Due.is("599 to go, 1 gone by", x.lost(0, 0), 1);
        Due.is("299 on, 300 back, 1 gone by", x.lost(299, 1), 1);
        Due.is("298 on, 299 back, 1 gone by", x.lost(298, 1), 0);
    }

    private static void nothingOrAllLost() {
        ColdHolds x = still(600);
        for (int leg = 0; leg < 6; leg++) {
            x.leg(200, 150);
        }
        Due.is("no LOTS", x.lost(0, 0), 0);
        for (int lot = 0; lot < 20; lot++) {
            x.lot(3, lot % 12);
            Due.is("LOTS lost on", x.lost(0, 0), lot + 1);
            Due.is("LOTS lost back, none goes by", x.lost(0, 1), 0);
            Due.is("LOTS lost back, 4 go by", x.lost(2, 1), 0);
            Due.is("LOTS lost back, 6 go by", x.lost(3, 1), lot + 1);
        }
        Due.is("back at once", x.way(0), 1);
        Due.is("all lost by both", x.way(3), 0);
    }

    private static void hoursLeft() {
        // LAMB at 600 is lost in the 5th HOUR.
        for (int left = 0; left <= 8; left++) {
            ColdHolds x = still(600);
            x.leg(3, 150);
            x.leg(7, 150);
            x.leg(1, 150);
            x.hours(11 - left);
            x.lot(3, 7);
            Due.is(left + " HOURS left", x.lost(300, 0), left >= 5 ? 1 : 0);
            Due.is(left + " HOURS left, broken now", x.lost(0, 0), left >= 5 ? 1 : 0);
        }
        ColdHolds beyond = still(600);
        beyond.leg(3, 150);
        beyond.lot(3, 7);
        beyond.hours(4);
        Due.is("behind all LEGS none are left", beyond.lost(300, 0), 0);
        beyond.hours(1);
        Due.is("what is lost stays lost", beyond.lost(300, 0), 1);
        ColdHolds last = still(600);
        for (int leg = 0; leg < 6; leg++) {
            last.leg(200, 150);
        }
        for (int i = 0; i < 3; i++) {
            last.hours(300);
        }
        last.hours(295);
        last.lot(3, 7);
        Due.is("5 of 1200 left", last.lost(0, 0), 1);
        last.warm(7, -300);
        last.hours(1);
        last.warm(7, 600);
        Due.is("4 of 1200 left", last.lost(0, 0), 0);
    }

    private static void hoursBack() {
        for (int gone = 0; gone <= 6; gone++) {
            for (int in = 0; in <= 6; in++) {
                ColdHolds x = still(600);
                x.leg(200, 150);
                if (gone > 0) {
                    x.hours(gone);
                }
                x.lot(3, 7);
                Due.is("back: " + gone + " gone by, " + in + " more", x.lost(in, 1), gone + 2 * in >= 5 ? 1 : 0);
            }
        }
        ColdHolds x = still(600);
        for (int i = 0; i < 4; i++) {
            x.hours(300);
        }
        x.lot(3, 7);
        Due.is("1200 HOURS back", x.lost(0, 1), 1);
        Due.is("none on", x.lost(0, 0), 0);
        Due.is("on", x.way(0), 0);
    }

    private static void seasBack() {
        // At HOUR g the way back is through the SEAS of g-1 .. 0: the same as ahead through them turned round.
        int[] seas = {400, -50, 310, -40, 390, 30};
        int lost = 0;
        int asked = 0;
        for (int gone = 1; gone <= 30; gone++) {
            for (int in = 0; in <= 6; in++) {
                ColdHolds x = new ColdHolds();
                x.engine(0, 0);
                x.outer(7, 20);
                for (int sea : seas) {
                    x.leg(5, sea);
                }
                x.hours(gone);
                x.lot(3, 7);
                int due = rotBack(seas, x.warmth(7), gone, in) >= 600 ? 1 : 0;
                Due.is("back from " + gone + " by way of " + in, x.lost(in, 1), due);
                lost += due;
                asked++;
            }
        }
        Due.is("some lost and some not", 0 < lost && lost < asked ? 1 : 0, 1);
    }

    private static int rotBack(int[] seas, int warmth, int gone, int in) {
        int rot = 0;
        for (int i = 0; i < 2 * in + gone; i++) {
            int hour = i < in ? gone + i : gone + 2 * in - 1 - i;
            warmth += Math.floorDiv(20 * (seas[Math.min(hour / 5, 5)] - warmth), 100);
            int carcass = Math.max(0, Math.floorDiv(warmth + 50, 10));
            rot += carcass == 0 ? 0 : 2 * carcass + 1;
        }
        return rot;
    }

    private static void theLessOfTwo() {
        // 10 HOURS on, g back; a LAMB is lost by 5 at 600, by 10 at 265 (64 an HOUR), a BUTTER never.
        for (int gone = 1; gone <= 9; gone++) {
            ColdHolds x = still(600);
            x.leg(10, 150);
            x.hours(gone);
            x.lot(3, 7);
            x.lot(3, 8);
            x.warm(8, 265);
            x.lot(5, 9);
            int on = (10 - gone >= 5 ? 1 : 0) + (10 - gone >= 10 ? 1 : 0);
            int back = (gone >= 5 ? 1 : 0) + (gone >= 10 ? 1 : 0);
            Due.is("on at " + gone, x.lost(0, 0), on);
            Due.is("back at " + gone, x.lost(0, 1), back);
            Due.is("the way at " + gone, x.way(0), back < on ? 1 : 0);
        }
    }

    private static void brokenAsTold() {
        // Under the PIPE it is 600 less 60 an HOUR: LAMB is lost if the ENGINE runs in few HOURS.
        for (int told = -1; told <= 12; told++) {
            for (int in = 0; in <= 12; in++) {
                ColdHolds x = still(-300);
                x.engine(1, 60);
                x.engine(3, 9999);
                x.warm(0, 600);
                x.leg(12, 150);
                x.lot(3, 0);
                if (told >= 0) {
                    x.breaks(told);
                }
                int runs = Math.min(in, told < 0 ? 300 : told);
                Due.is("on, told " + told + ", in " + in, x.lost(in, 0), rot(runs, 12) >= 600 ? 1 : 0);
                Due.is("back, told " + told + ", in " + in, x.lost(in, 1), rot(runs, 2 * in) >= 600 ? 1 : 0);
                Due.is("it is not broken by asking", x.hours(12), told < 0 ? 12 : told);
            }
        }
    }

    private static int rot(int runs, int hours) {
        int warmth = 600;
        int rot = 0;
        for (int hour = 0; hour < hours; hour++) {
            warmth -= hour < runs ? 60 : 0;
            warmth = Math.max(-300, warmth);
            int carcass = Math.max(0, Math.floorDiv(warmth + 50, 10));
            rot += carcass == 0 ? 0 : 2 * carcass + 1;
        }
        return rot;
    }

    private static void coalOnTheWay() {
        for (int coal = 0; coal <= 14; coal++) {
            ColdHolds x = still(-300);
            x.engine(1, 60);
            x.engine(2, 2);
            x.engine(3, coal);
            x.warm(0, 600);
            x.leg(7, 150);
            x.lot(3, 0);
            Due.is("on, COAL " + coal, x.lost(300, 0), rot(coal / 2, 7) >= 600 ? 1 : 0);
            Due.is("back, COAL " + coal, x.lost(4, 1), rot(Math.min(4, coal / 2), 8) >= 600 ? 1 : 0);
            Due.is("no COAL is burnt by asking", x.count(2), coal);
        }
    }

    private static void behindAllHours() {
        // No HOUR goes by any more, but lost() tells what would be, if some did.
        ColdHolds x = still(500);
        for (int i = 0; i < 4; i++) {
            x.hours(300);
        }
        x.engine(1, 60);
        x.engine(3, 9999);
        x.lot(3, 0);
        Due.is("back at once, never cooled", x.lost(0, 1), 1);
        Due.is("8 HOURS on, not yet cold", x.lost(8, 1), 1);
        Due.is("10 HOURS on, cold then", x.lost(10, 1), 0);
        Due.is("300 HOURS on", x.lost(300, 1), 0);
        Due.is("no HOURS are left to go on", x.lost(300, 0), 0);
        x.hours(1);
        Due.is("none goes by", x.count(1), 1200);
    }
}
