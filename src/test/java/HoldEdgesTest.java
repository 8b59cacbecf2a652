/** Promises 1 to 11 at their edges: which CELLS are beside one another, what is rounded, when the ENGINE runs. */
final class HoldEdgesTest {
    private static final int[][] BESIDE = {{1, 4}, {0, 2, 5}, {1, 3, 6}, {2, 7}, {0, 5, 8}, {1, 4, 6, 9},
        {2, 5, 7, 10}, {3, 6, 11}, {4, 9}, {5, 8, 10}, {6, 9, 11}, {7, 10}};

    private HoldEdgesTest() {
    }

    static void run() {
        atFirst();
        legsEndWhereTheyEnd();
        noLegBehindAnHour();
        beside();
        roundedDown();
        mostOfEach();
        notBelow();
        coalForAnHour();
        engineWithoutPipe();
        brokenFromThatHour();
        refusedBreaksKeepsWhatWasTold();
        allHours();
        manyHoursAreSingleOnes();
        firstInJustSoMany();
        firstAboveNotAt();
        firstBehindAllHours();
    }

    private static ColdHolds still() {
        ColdHolds x = new ColdHolds();
        x.engine(0, 0);
        for (int cell = 0; cell < 12; cell++) {
            x.outer(cell, 0);
        }
        return x;
    }

    private static void atFirst() {
        ColdHolds x = new ColdHolds();
        Due.is("sea(0) at first", x.sea(0), 150);
        Due.is("sea(9999) at first", x.sea(9999), 150);
        Due.is("first at first", x.first(100, 0), -1);
        Due.is("fault at first", x.fault(), 0);
        Due.is("text at first", x.text(), -103);
        Due.is("blank at first", x.blank(), 0);
        Due.is("lost at first", x.lost(300, 0), 0);
        Due.is("lost back at first", x.lost(300, 1), 0);
        Due.is("way at first", x.way(0), 0);
        Due.is("rate at first", x.rate(5), 5);
        Due.is("laid at first", x.laid(1, 1, 0), 0);
        Due.is("laid at first", x.laid(1, 1, 10), -1);
        Due.is("driven at first", x.driven(0), 0);
        Due.is("driven at first", x.driven(10), -1);
        Due.is("loss at first", x.loss(1), 1);
        Due.is("week(0, 0) at first", x.week(0, 0), 100);
        Due.is("week(199, 1) at first", x.week(199, 1), 0);
        Due.is("turns at first", x.turns(1), 1);
        Due.is("falls at first", x.falls(0, 0), 0);
        Due.is("stable at first", x.stable(0), 1);
        Due.is("plan at first", x.plan(0, 1, 0), 0);
        for (int works = 0; works < 4; works++) {
            Due.is("works at first", x.works(works, 0), 0);
        }
        x.flock(1, 1);
        for (int works = 0; works < 4; works++) {
            Due.is("days at first", x.days(0, works, 10), 10);
        }
        x.choice(1);
        for (int year = 0; year < 5; year++) {
            Due.is("gives at first", x.gives(0, year, 0), 0);
        }
        for (int farm = 0; farm < 8; farm++) {
            x.farm(0, 0);
        }
        for (int a = 0; a < 8; a++) {
            for (int b = 0; b < 8; b++) {
                Due.is("owe at first", x.owe(a, b, 0), a == b ? -101 : 0);
            }
        }
    }

    private static void legsEndWhereTheyEnd() {
        ColdHolds x = new ColdHolds();
        for (int leg = 0; leg < 6; leg++) {
            x.leg(200, leg * 10 - 50);
            Due.is("the last LEG goes on", x.sea(9999), leg * 10 - 50);
        }
        for (int leg = 0; leg < 6; leg++) {
            Due.is("first HOUR of LEG " + leg, x.sea(200 * leg), leg * 10 - 50);
            Due.is("last HOUR of LEG " + leg, x.sea(200 * leg + 199), leg * 10 - 50);
        }
        Due.is("behind all LEGS", x.sea(1200), 0);
        ColdHolds y = new ColdHolds();
        y.leg(1, 400);
        Due.is("HOUR 0 of the one LEG", y.sea(0), 400);
        Due.is("HOUR 1 behind the one LEG", y.sea(1), 400);
        y.leg(1, -50);
        Due.is("HOUR 0 is in the first", y.sea(0), 400);
        Due.is("HOUR 1 is in the second", y.sea(1), -50);
    }

    private static void noLegBehindAnHour() {
        ColdHolds x = new ColdHolds();
        x.hours(0);
        x.hours(301);
        Due.is("leg, as no HOUR has gone by", x.leg(1, 0), 1);
        x.first(0, 300);
        x.lost(300, 1);
        Due.is("leg, as HOURS were but tried", x.leg(1, 0), 2);
        x.hours(1);
        Due.is("leg behind one HOUR", x.leg(1, 0), -103);
        Due.is("legs stay", x.count(0), 2);
        ColdHolds y = new ColdHolds();
        y.hours(1);
        Due.is("leg behind an HOUR without LEGS", y.leg(1, 0), -103);
        Due.is("outside ahead of that", y.leg(201, 0), -102);
    }

    private static void beside() {
        for (int hot = 0; hot < 12; hot++) {
            ColdHolds x = still();
            x.engine(0, 10);
            x.warm(hot, 300);
            x.hours(1);
            for (int cell = 0; cell < 12; cell++) {
                int due = cell == hot ? 300 - 20 * BESIDE[hot].length : 100;
                for (int beside : BESIDE[hot]) {
                    due += cell == beside ? 20 : 0;
                }
                Due.is("CELL " + cell + " when " + hot + " is hot", x.warmth(cell), due);
            }
        }
    }

    private static void roundedDown() {
        int[] seas = {-2, -1, 0, 1, 2, 50, 98, 99, 100, 101, 199, 200, 201};
        for (int sea : seas) {
            ColdHolds x = still();
            x.leg(1, sea);
            x.outer(7, 1);
            x.hours(1);
            int due = sea >= 200 ? 101 : sea >= 100 ? 100 : sea >= 0 ? 99 : 98;
            Due.is("by a SEA of " + sea, x.warmth(7), due);
        }
        ColdHolds x = still();
        x.engine(0, 1);
        x.warm(0, 101);
        x.hours(1);
        // 1 * -2 for CELL 0, 1 * 1 for those beside it.
        Due.is("a little above those beside it", x.warmth(0), 100);
        Due.is("a little below one beside it", x.warmth(1), 100);
        ColdHolds y = still();
        y.engine(0, 1);
        y.outer(0, 1);
        y.leg(1, 200);
        y.warm(1, 99);
        y.hours(1);
        // LEAK and OUTER go into one sum: 1 * -1 + 1 * 100 is below 100.
        Due.is("one sum, rounded once", y.warmth(0), 100);
    }

    private static void mostOfEach() {
        ColdHolds x = still();
        x.engine(0, 20);
        x.outer(5, 20);
        x.leg(1, 400);
        x.warm(5, -300);
        for (int beside : BESIDE[5]) {
            x.warm(beside, 600);
        }
        x.hours(1);
        Due.is("the most of LEAK, OUTER and SEA", x.warmth(5), -300 + (20 * 3600 + 20 * 700) / 100);
        ColdHolds y = still();
        y.engine(0, 20);
        y.outer(5, 20);
        y.leg(1, -50);
        y.warm(5, 600);
        for (int beside : BESIDE[5]) {
            y.warm(beside, -300);
        }
        y.hours(1);
        Due.is("the other way", y.warmth(5), 600 - (20 * 3600 + 20 * 650) / 100);
    }

    private static void notBelow() {
        int[] warmths = {-300, -299, -241, -240, -239};
        for (int w : warmths) {
            ColdHolds x = still();
            x.engine(1, 60);
            x.engine(3, 9999);
            x.warm(0, w);
            Due.is("runs", x.hours(1), 1);
            Due.is("60 less than " + w, x.warmth(0), w == -239 ? -299 : -300);
            Due.is("elsewhere", x.warmth(1), 100);
        }
        ColdHolds x = still();
        x.engine(1, 0);
        x.engine(3, 9999);
        Due.is("runs with COLD 0", x.hours(3), 3);
        Due.is("COLD 0", x.warmth(0), 100);
        x.engine(1, 1);
        x.hours(1);
        Due.is("COLD 1", x.warmth(0), 99);
    }

    private static void coalForAnHour() {
        for (int burn = 1; burn <= 9; burn++) {
            for (int coal = 0; coal <= 2 * burn; coal++) {
                ColdHolds x = still();
                x.engine(2, burn);
                x.engine(3, coal);
                Due.is("hours of " + coal + " by " + burn, x.hours(3), coal / burn);
                Due.is("coal left of " + coal + " by " + burn, x.count(2), coal % burn);
                Due.is("cooled by " + coal + " by " + burn, x.warmth(0), 100 - 20 * (coal / burn));
            }
        }
        ColdHolds x = still();
        x.engine(3, 9999);
        Due.is("the most COAL", x.hours(300), 300);
        Due.is("coal left", x.count(2), 9699);
    }

    private static void engineWithoutPipe() {
        ColdHolds x = still();
        x.pipe(0, false);
        x.engine(3, 5);
        Due.is("it runs and burns without a PIPE", x.hours(7), 5);
        Due.is("all COAL is burnt", x.count(2), 0);
        Due.is("nothing is cooled", x.warmth(0), 100);
        ColdHolds all = still();
        for (int cell = 0; cell < 12; cell++) {
            all.pipe(cell, true);
        }
        all.engine(3, 1);
        Due.is("one BURN for all PIPES", all.hours(2), 1);
        for (int cell = 0; cell < 12; cell++) {
            Due.is("each PIPE cools", all.warmth(cell), 80);
        }
    }

    private static void brokenFromThatHour() {
        for (int in = 0; in <= 6; in++) {
            ColdHolds x = still();
            x.engine(3, 9999);
            x.hours(4);
            x.breaks(in);
            Due.is("breaks(" + in + ") and 5 HOURS", x.hours(5), Math.min(in, 5));
            Due.is("no COAL burns when BROKEN", x.count(2), 9999 - 4 - Math.min(in, 5));
        }
        ColdHolds x = still();
        x.engine(3, 9999);
        x.breaks(1200);
        for (int i = 0; i < 4; i++) {
            Due.is("breaks(1200) at HOUR 0", x.hours(300), 300);
        }
        ColdHolds y = still();
        y.engine(3, 9999);
        y.breaks(1199);
        for (int i = 0; i < 4; i++) {
            Due.is("breaks(1199) at HOUR 0", y.hours(300), i < 3 ? 300 : 299);
        }
    }

    private static void refusedBreaksKeepsWhatWasTold() {
        for (int bad : new int[] {-2, 1201, Integer.MIN_VALUE, Integer.MAX_VALUE}) {
            ColdHolds x = still();
            x.engine(3, 9999);
            Due.is("breaks(" + bad + ")", x.breaks(bad), -102);
            Due.is("never, as at first", x.hours(300), 300);
            x.breaks(3);
            Due.is("breaks(" + bad + ")", x.breaks(bad), -102);
            Due.is("3, as told", x.hours(5), 3);
            x.breaks(-1);
            Due.is("breaks(" + bad + ")", x.breaks(bad), -102);
            Due.is("never, as told", x.hours(5), 5);
        }
    }

    private static void allHours() {
        ColdHolds x = still();
        for (int i = 0; i < 3; i++) {
            x.hours(300);
        }
        x.hours(299);
        Due.is("1199 gone by", x.count(1), 1199);
        Due.is("hours(2) at 1199", x.hours(2), -103);
        Due.is("hours(300) at 1199", x.hours(300), -103);
        Due.is("hours(301) at 1199", x.hours(301), -102);
        Due.is("1199 still", x.count(1), 1199);
        x.lot(3, 0);
        x.warm(0, 600);
        Due.is("hours(1) at 1199", x.hours(1), 0);
        Due.is("1200 gone by", x.count(1), 1200);
        Due.is("STATE 1 came in the last HOUR", x.about(0, 6), 1199);
        Due.is("hours(1) at 1200", x.hours(1), -103);
        Due.is("hours(0) at 1200", x.hours(0), -102);
        Due.is("1200 still", x.count(1), 1200);
        ColdHolds y = still();
        for (int i = 0; i < 4; i++) {
            Due.is("300 at once", y.hours(300), 0);
        }
        Due.is("1200 by 300", y.count(1), 1200);
    }

    private static void manyHoursAreSingleOnes() {
        ColdHolds once = States.some();
        ColdHolds single = States.some();
        int ran = 0;
        for (int i = 0; i < 40; i++) {
            ran += single.hours(1);
        }
        Due.is("40 at once and one by one", once.hours(40), ran);
        Due.is("digest, 40 at once and one by one", once.digest(), single.digest());
    }

    private static void firstInJustSoMany() {
        ColdHolds x = still();
        x.outer(9, 1);
        x.leg(200, 400);
        // CELL 9 warms by 3, then by 2, then by 1 an HOUR, until the SEA is warmer by less than 100.
        Due.is("102 is not above 102", x.first(102, 1), 1009);
        Due.is("not in no HOURS", x.first(102, 0), -1);
        Due.is("in two HOURS", x.first(103, 2), 2009);
        Due.is("not in one HOUR", x.first(103, 1), -1);
        int far = x.first(280, 300);
        Due.is("far off, in CELL 9", far % 1000, 9);
        Due.is("in just so many", x.first(280, far / 1000), far);
        Due.is("not in one less", x.first(280, far / 1000 - 1), -1);
        x.hours(300);
        Due.is("never above the SEA", x.first(400, 300), -1);
        ColdHolds last = still();
        last.outer(11, 20);
        last.leg(200, 100);
        last.leg(99, 100);
        last.leg(1, 200);
        Due.is("in the 300th HOUR", last.first(100, 300), 300011);
        Due.is("not in 299", last.first(100, 299), -1);
        last.hours(1);
        Due.is("in the 299th from then", last.first(100, 299), 299011);
    }

    private static void firstAboveNotAt() {
        ColdHolds x = still();
        for (int cell = 0; cell < 12; cell++) {
            x.warm(cell, -300);
        }
        Due.is("-300 is not above -300", x.first(-300, 0), -1);
        x.warm(11, -299);
        Due.is("-299 is", x.first(-300, 0), 11);
        x.warm(4, -299);
        Due.is("of like ones the least", x.first(-300, 0), 4);
        x.warm(10, 600);
        Due.is("not the warmest, but the least", x.first(-300, 0), 4);
        Due.is("600 is above 599", x.first(599, 0), 10);
        Due.is("600 is not above 600", x.first(600, 0), -1);
        Due.is("nor ever", x.first(600, 300), -1);
        x.warm(0, 600);
        Due.is("CELL 0 now: 0", x.first(599, 300), 0);
    }

    private static void firstBehindAllHours() {
        // No HOUR goes by any more, but first() tells what would be, if some did.
        ColdHolds x = still();
        for (int i = 0; i < 4; i++) {
            x.hours(300);
        }
        x.outer(9, 20);
        Due.is("the 1201st HOUR does not go by", x.hours(1), -103);
        Due.is("above 100 if it did", x.first(100, 1), 1009);
        Due.is("above 110 if two did", x.first(110, 300), 2009);
        Due.is("not in one", x.first(110, 1), -1);
    }
}
