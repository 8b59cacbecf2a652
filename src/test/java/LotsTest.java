/** Promises 12 to 15: lots. */
final class LotsTest {
    private LotsTest() {
    }

    static void run() {
        told();
        refused();
        spoiling();
        states();
        oneAnHour();
        worth();
        casts();
        lay();
    }

    private static ColdHolds still(int warmth) {
        ColdHolds x = new ColdHolds();
        x.engine(0, 0);
        for (int cell = 0; cell < 12; cell++) {
            x.outer(cell, 0);
            x.warm(cell, warmth);
        }
        return x;
    }

    private static void told() {
        ColdHolds x = still(100);
        Due.is("lot 0", x.lot(3, 11), 0);
        x.hours(5);
        Due.is("lot 1", x.lot(5, 2), 1);
        int[] fresh = {5, 2, 0, 0, 0, 3000, -1, -1, -1};
        int[] old = {3, 11, 155, 1, 5, 4500, 3, -1, -1};
        for (int what = 0; what <= 8; what++) {
            Due.is("about(1, " + what + ")", x.about(1, what), fresh[what]);
            Due.is("about(0, " + what + ")", x.about(0, what), old[what]);
        }
        Due.refuses(x, "about(0, 9)", -102, () -> x.about(0, 9));
        Due.refuses(x, "about(0, -1)", -102, () -> x.about(0, -1));
        Due.refuses(x, "about(2, 9)", -101, () -> x.about(2, 9));
        Due.refuses(x, "about(-1, 0)", -101, () -> x.about(-1, 0));
    }

    private static void refused() {
        ColdHolds x = new ColdHolds();
        Due.refuses(x, "lot(0, 12)", -101, () -> x.lot(0, 12));
        Due.refuses(x, "lot(6, -1)", -101, () -> x.lot(6, -1));
        Due.refuses(x, "lot(6, 0)", -102, () -> x.lot(6, 0));
        Due.refuses(x, "lot(-1, 0)", -102, () -> x.lot(-1, 0));
        for (int i = 0; i < 20; i++) {
            Due.is("lot", x.lot(i % 6, i % 12), i);
        }
        Due.refuses(x, "lot 21", -104, () -> x.lot(0, 0));
        Due.refuses(x, "lot 21 of no kind", -102, () -> x.lot(6, 0));
        Due.refuses(x, "lot 21 in no cell", -101, () -> x.lot(6, 12));
        Due.is("lots", x.count(3), 20);
    }

    private static void spoiling() {
        int[] warmths = {-300, -51, -50, -41, -40, 0, 9, 100, 101, 109, 110, 600};
        int[] carcass = {0, 0, 0, 0, 1, 5, 5, 15, 15, 15, 16, 65};
        for (int i = 0; i < warmths.length; i++) {
            ColdHolds x = still(warmths[i]);
            for (int kind = 0; kind < 6; kind++) {
                x.lot(kind, kind);
            }
            x.hours(1);
            int c = carcass[i];
            int[] due = {0, c, c, c == 0 ? 0 : 2 * c + 1, 0, warmths[i] > 100 ? 1 : 0};
            for (int kind = 0; kind < 6; kind++) {
                Due.is("kind " + kind + " at " + warmths[i], x.about(kind, 2), due[kind]);
            }
        }
        ColdHolds end = new ColdHolds();
        end.warm(0, 99);
        end.outer(0, 20);
        end.engine(0, 0);
        end.lot(5, 0);
        end.hours(1);
        Due.is("by the warmth at the hour's end", end.about(0, 2), 1);
    }

    private static void states() {
        ColdHolds x = still(150);
        x.lot(1, 0);
        x.lot(3, 0);
        // 20 and 41 an HOUR
        int[] carcass = {4, 14, 29};
        int[] lamb = {2, 7, 14};
        for (int hour = 0; hour < 31; hour++) {
            x.hours(1);
            for (int s = 0; s < 3; s++) {
                Due.is("carcass, state " + (s + 1), x.about(0, 6 + s), hour >= carcass[s] ? carcass[s] : -1);
                Due.is("lamb, state " + (s + 1), x.about(1, 6 + s), hour >= lamb[s] ? lamb[s] : -1);
            }
            int rot = 20 * (hour + 1);
            Due.is("rot", x.about(0, 2), rot);
            Due.is("state", x.about(0, 3), rot >= 600 ? 3 : rot >= 300 ? 2 : rot >= 100 ? 1 : 0);
        }
    }

    private static void oneAnHour() {
        // 1 an HOUR, in each of as many LOTS as there can be
        ColdHolds x = still(-40);
        for (int lot = 0; lot < 20; lot++) {
            x.lot(1, lot % 12);
        }
        int[] from = {100, 300, 600};
        for (int s = 0; s < 3; s++) {
            while (x.count(1) < from[s] - 1) {
                x.hours(Math.min(100, from[s] - 1 - x.count(1)));
            }
            Due.is("state, rot " + (from[s] - 1), x.about(19, 3), s);
            Due.is("worth, rot " + (from[s] - 1), x.about(19, 5), 30 * (100 - 25 * s));
            Due.is("lost, rot " + (from[s] - 1), x.lost(0, 0), 0);
            x.hours(1);
            Due.is("state, rot " + from[s], x.about(19, 3), s + 1);
            Due.is("came", x.about(19, 6 + s), from[s] - 1);
            Due.is("lost, rot " + from[s], x.lost(0, 0), s == 2 ? 20 : 0);
        }
        Due.is("back", x.lost(1, 1), 20);
    }

    private static void worth() {
        int[] each = {10, 30, 35, 60, 10, 30};
        ColdHolds x = still(600);
        for (int kind = 0; kind < 6; kind++) {
            x.lot(kind, kind);
            Due.is("worth, sound", x.about(kind, 5), 100 * each[kind]);
        }
        x.hours(2);
        Due.is("worth, state 1", x.about(1, 5), 2250);
        Due.is("worth, state 1", x.about(3, 5), 4500);
        x.hours(3);
        Due.is("worth, state 2", x.about(2, 5), 1750);
        Due.is("worth, state 3", x.about(3, 5), 1500);
        x.hours(5);
        Due.is("worth, state 3", x.about(1, 5), 750);
        Due.is("worth, state 3", x.about(2, 5), 875);
        Due.is("a good stays sound", x.about(0, 5), 1000);
        Due.is("butter stays sound", x.about(5, 5), 3000);
        x.hours(90);
        Due.is("butter, state 1", x.about(5, 5), 2250);
        Due.is("butter came to it", x.about(5, 6), 99);
    }

    private static void casts() {
        ColdHolds x = new ColdHolds();
        x.lot(0, 0);
        for (int kind = 0; kind < 6; kind++) {
            x.lot(kind, 0);
        }
        String[] such = {"0", "01", "012", "013", "04", "05"};
        for (int kind = 0; kind < 6; kind++) {
            for (int as = 0; as < 6; as++) {
                int lot = kind + 1;
                Due.is("as(" + lot + ", " + as + ")", x.as(lot, as), such[kind].indexOf('0' + as) >= 0 ? lot : -1);
            }
        }
        Due.refuses(x, "as(7, 9)", -101, () -> x.as(7, 9));
        Due.refuses(x, "as(-1, 0)", -101, () -> x.as(-1, 0));
        Due.refuses(x, "as(0, 6)", -102, () -> x.as(0, 6));
        Due.refuses(x, "as(0, -1)", -102, () -> x.as(0, -1));
    }

    private static void lay() {
        ColdHolds x = still(100);
        x.warm(7, 200);
        x.lot(1, 3);
        x.hours(1);
        Due.is("laid elsewhere", x.lay(0, 7), 3);
        Due.is("its cell", x.about(0, 1), 7);
        Due.is("laid where it lies", x.lay(0, 7), 7);
        x.hours(1);
        Due.is("rot of both cells", x.about(0, 2), 15 + 25);
        Due.is("hours since it was laid first", x.about(0, 4), 2);
        Due.refuses(x, "lay(0, 12)", -101, () -> x.lay(0, 12));
        Due.refuses(x, "lay(0, -1)", -101, () -> x.lay(0, -1));
        Due.refuses(x, "lay(1, 0)", -101, () -> x.lay(1, 0));
        Due.refuses(x, "lay(-1, 0)", -101, () -> x.lay(-1, 0));
    }
}
