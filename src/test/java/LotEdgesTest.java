/** Promises 12 to 15 at their edges: from which WARMTH and which ROT on what is told of a LOT changes. */
final class LotEdgesTest {
    private static final int CARCASS = 1, MUTTON = 2, LAMB = 3, TALLOW = 4, BUTTER = 5;

    private LotEdgesTest() {
    }

    static void run() {
        noneOneAndAll();
        warmths();
        byTheHour();
        worthInEachState();
        hoursSinceLaid();
        rotWhereItLay();
        castsKeepTheNumber();
    }

    private static ColdHolds still(int warmth) {
        ColdHolds x = new ColdHolds();
        x.engine(0, 0);
        for (int cell = 0; cell < 12; cell++) {
            x.outer(cell, 0);
            x.warm(cell, warmth);
        }
        return x;
    }

    private static void unknown(ColdHolds x, int lot) {
        Due.is("lay(" + lot + ")", x.lay(lot, 0), -101);
        Due.is("about(" + lot + ")", x.about(lot, 0), -101);
        Due.is("as(" + lot + ")", x.as(lot, 0), -101);
        Due.is("says(" + lot + ")", x.says(0, lot), -101);
    }

    private static void noneOneAndAll() {
        ColdHolds x = new ColdHolds();
        for (int lot = 0; lot < 20; lot++) {
            unknown(x, lot);
            unknown(x, -1);
            Due.is("lot " + lot, x.lot(lot % 6, lot % 12), lot);
            Due.is("KIND of " + lot, x.about(lot, 0), lot % 6);
            Due.is("CELL of " + lot, x.about(lot, 1), lot % 12);
        }
        unknown(x, 20);
        Due.is("lot 20", x.lot(0, 0), -104);
        unknown(x, 20);
        Due.is("lots", x.count(3), 20);
        Due.is("the last can be laid", x.lay(19, 0), 7);
    }

    private static void warmths() {
        for (int w = -300; w <= 600; w++) {
            if (w > -60 && w < -20 || w > 80 && w < 120 || w % 50 == 0 || w % 10 == 9) {
                spoilt(w);
            }
        }
    }

    private static void spoilt(int w) {
        ColdHolds x = still(w);
        for (int kind = 0; kind < 6; kind++) {
            x.lot(kind, 11);
        }
        x.hours(1);
        int carcass = 0;
        for (int from = -40; from <= w; from += 10) {
            carcass++;
        }
        Due.is("GOOD at " + w, x.about(0, 2), 0);
        Due.is("CARCASS at " + w, x.about(CARCASS, 2), carcass);
        Due.is("MUTTON at " + w, x.about(MUTTON, 2), carcass);
        Due.is("LAMB at " + w, x.about(LAMB, 2), w < -40 ? 0 : carcass + carcass + 1);
        Due.is("TALLOW at " + w, x.about(TALLOW, 2), 0);
        Due.is("BUTTER at " + w, x.about(BUTTER, 2), w <= 100 ? 0 : 1);
    }

    private static void byTheHour() {
        ColdHolds x = still(600);
        x.lot(LAMB, 0);
        x.lot(BUTTER, 0);
        Due.is("not yet", x.about(0, 6), -1);
        // 131 an HOUR: 131, 262, 393, 524, 655.
        int[] states = {1, 1, 2, 2, 3};
        for (int hour = 0; hour < 5; hour++) {
            x.hours(1);
            Due.is("STATE at the end of HOUR " + hour, x.about(0, 3), states[hour]);
            Due.is("STATE 1 came in HOUR 0", x.about(0, 6), 0);
            Due.is("STATE 2", x.about(0, 7), hour < 2 ? -1 : 2);
            Due.is("STATE 3", x.about(0, 8), hour < 4 ? -1 : 4);
        }
        x.hours(94);
        Due.is("BUTTER, ROT 99", x.about(1, 2), 99);
        Due.is("BUTTER is sound", x.about(1, 3), 0);
        Due.is("STATE 1 not yet", x.about(1, 6), -1);
        x.hours(1);
        Due.is("BUTTER, ROT 100", x.about(1, 3), 1);
        Due.is("STATE 1 in HOUR 99", x.about(1, 6), 99);
        x.hours(199);
        Due.is("BUTTER, ROT 299", x.about(1, 3), 1);
        Due.is("STATE 2 not yet", x.about(1, 7), -1);
        x.hours(1);
        Due.is("BUTTER, ROT 300", x.about(1, 3), 2);
        Due.is("STATE 2 in HOUR 299", x.about(1, 7), 299);
        x.hours(299);
        Due.is("BUTTER, ROT 599", x.about(1, 3), 2);
        Due.is("STATE 3 not yet", x.about(1, 8), -1);
        x.hours(1);
        Due.is("BUTTER, ROT 600", x.about(1, 3), 3);
        Due.is("STATE 3 in HOUR 599", x.about(1, 8), 599);
        x.hours(300);
        Due.is("STATE 1 as ahead", x.about(1, 6), 99);
        Due.is("STATE 2 as ahead", x.about(1, 7), 299);
        Due.is("STATE 3 as ahead", x.about(1, 8), 599);
        Due.is("the most ROT of BUTTER", x.about(1, 2), 900);
        Due.is("ROT goes on", x.about(0, 2), 900 * 131);
    }

    private static void worthInEachState() {
        // Not at once, but one ROT an HOUR: CARCASS and MUTTON at -40, BUTTER at 101.
        ColdHolds x = still(-40);
        x.lot(CARCASS, 0);
        x.lot(MUTTON, 0);
        x.warm(1, 101);
        x.lot(BUTTER, 1);
        // LAMB rots by 3 an HOUR at -40.
        x.lot(LAMB, 2);
        int[] hours = {99, 1, 199, 1, 299, 1};
        int rot = 0;
        for (int n : hours) {
            x.hours(n);
            rot += n;
            int part = rot < 100 ? 100 : rot < 300 ? 75 : rot < 600 ? 50 : 25;
            int ofLamb = 3 * rot < 300 ? 75 : 3 * rot < 600 ? 50 : 25;
            Due.is("WORTH of a CARCASS at ROT " + rot, x.about(0, 5), 30 * part);
            Due.is("WORTH of MUTTON at ROT " + rot, x.about(1, 5), 35 * part);
            Due.is("WORTH of BUTTER at ROT " + rot, x.about(2, 5), 30 * part);
            Due.is("WORTH of LAMB at ROT " + 3 * rot, x.about(3, 5), 60 * ofLamb);
        }
        ColdHolds hot = still(600);
        hot.lot(0, 0);
        hot.lot(TALLOW, 0);
        for (int i = 0; i < 4; i++) {
            hot.hours(300);
        }
        Due.is("a GOOD stays sound", hot.about(0, 5), 1000);
        Due.is("TALLOW stays sound", hot.about(1, 5), 1000);
        Due.is("TALLOW never came to STATE 1", hot.about(1, 6), -1);
    }

    private static void hoursSinceLaid() {
        ColdHolds x = still(0);
        x.lot(0, 0);
        Due.is("no HOURS", x.about(0, 4), 0);
        x.hours(1);
        Due.is("one HOUR", x.about(0, 4), 1);
        x.lay(0, 1);
        Due.is("laid again, one HOUR", x.about(0, 4), 1);
        for (int i = 0; i < 3; i++) {
            x.hours(300);
        }
        x.hours(299);
        Due.is("all HOURS", x.about(0, 4), 1200);
        x.lot(0, 0);
        Due.is("laid behind all HOURS", x.about(1, 4), 0);
    }

    private static void rotWhereItLay() {
        ColdHolds x = still(-300);
        x.warm(5, 600);
        x.lot(CARCASS, 4);
        x.hours(1);
        Due.is("in the cold", x.about(0, 2), 0);
        x.lay(0, 5);
        Due.is("laying it warms nothing yet", x.about(0, 2), 0);
        x.hours(1);
        Due.is("an HOUR in the warm", x.about(0, 2), 65);
        x.lay(0, 6);
        x.hours(1);
        Due.is("ROT stays", x.about(0, 2), 65);
    }

    private static void castsKeepTheNumber() {
        ColdHolds x = new ColdHolds();
        for (int lot = 0; lot < 20; lot++) {
            x.lot(LAMB, 0);
        }
        Due.is("LAMB is LAMB", x.as(19, LAMB), 19);
        Due.is("LAMB is a CARCASS", x.as(19, CARCASS), 19);
        Due.is("LAMB is a GOOD", x.as(0, 0), 0);
        Due.is("LAMB is no MUTTON", x.as(19, MUTTON), -1);
        Due.is("LAMB is no BUTTER", x.as(19, BUTTER), -1);
    }
}
