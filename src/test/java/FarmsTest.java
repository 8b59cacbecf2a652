/** Promises 39 to 42: farms. */
final class FarmsTest {
    private FarmsTest() {
    }

    static void run() {
        refused();
        rounds();
        safe();
    }

    private static void refused() {
        ColdHolds x = new ColdHolds();
        Due.refuses(x, "farm(-1, 0)", -102, () -> x.farm(-1, 0));
        Due.refuses(x, "farm(10, 0)", -102, () -> x.farm(10, 0));
        Due.refuses(x, "farm(0, -10000)", -102, () -> x.farm(0, -10000));
        Due.refuses(x, "farm(0, 10000)", -102, () -> x.farm(0, 10000));
        Due.is("safe without farms", x.safe(-1), 0);
        Due.is("falls without farms", x.falls(0, 0), 0);
        Due.is("rounds without farms", x.falls(999, 1), 0);
        Due.refuses(x, "safe(0)", -101, () -> x.safe(0));
        Due.is("0", x.farm(0, -9999), 0);
        Due.is("1", x.farm(9, 9999), 1);
        Due.is("owe", x.owe(0, 1, 999), 0);
        Due.is("owe", x.owe(0, 1, 7), 999);
        Due.is("owe the other way", x.owe(1, 0, 0), 0);
        Due.is("owe", x.owe(0, 1, 0), 7);
        Due.refuses(x, "owe(2, 0, 0)", -101, () -> x.owe(2, 0, 0));
        Due.refuses(x, "owe(0, 2, 1000)", -101, () -> x.owe(0, 2, 1000));
        Due.refuses(x, "owe(-1, 0, 0)", -101, () -> x.owe(-1, 0, 0));
        Due.refuses(x, "owe(0, -1, 0)", -101, () -> x.owe(0, -1, 0));
        Due.refuses(x, "owe(1, 1, -1)", -101, () -> x.owe(1, 1, -1));
        Due.refuses(x, "owe(0, 1, -1)", -102, () -> x.owe(0, 1, -1));
        Due.refuses(x, "owe(0, 1, 1000)", -102, () -> x.owe(0, 1, 1000));
        for (int i = 2; i < 8; i++) {
            Due.is("farm", x.farm(i, i), i);
        }
        Due.refuses(x, "farm 9", -104, () -> x.farm(0, 0));
        Due.refuses(x, "farm 9, outside", -102, () -> x.farm(10, 0));
        Due.is("farms", x.count(9), 8);
        Due.refuses(x, "falls(-1, 0)", -102, () -> x.falls(-1, 0));
        Due.refuses(x, "falls(1000, 0)", -102, () -> x.falls(1000, 0));
        Due.refuses(x, "falls(0, 2)", -102, () -> x.falls(0, 2));
        Due.refuses(x, "falls(0, -1)", -102, () -> x.falls(0, -1));
        Due.refuses(x, "safe(8)", -101, () -> x.safe(8));
        Due.refuses(x, "safe(-2)", -101, () -> x.safe(-2));
    }

    private static void rounds() {
        // 0 owes 1, 1 owes 2, .. each has just what it owes, less what it is owed; 0 has a coin too few below 1.
        ColdHolds x = new ColdHolds();
        x.farm(1, 99);
        for (int i = 1; i < 8; i++) {
            x.farm(0, 0);
        }
        for (int i = 0; i < 7; i++) {
            x.owe(i, i + 1, 100);
        }
        Due.is("all stand", x.falls(1, 0), 0);
        Due.is("no rounds", x.falls(1, 1), 0);
        Due.is("all that owe fall", x.falls(0, 0), 127);
        Due.is("one a round", x.falls(0, 1), 7);
        x.owe(7, 0, 1);
        Due.is("owed one more by 7", x.falls(0, 0), 0);
        x.owe(7, 0, 0);
        // In one round all fall at once that fall.
        ColdHolds y = new ColdHolds();
        y.farm(0, -1);
        y.farm(0, -1);
        y.farm(0, 0);
        Due.is("two fall", y.falls(500, 0), 3);
        Due.is("in one round", y.falls(500, 1), 1);
        y.owe(2, 0, 1);
        // 2 gives 0 what it lacks, but falls in the first round.
        Due.is("falls, and takes 0 along", y.falls(0, 0), 7);
        Due.is("in two rounds", y.falls(0, 1), 2);
        ColdHolds z = new ColdHolds();
        z.farm(0, 50);
        z.farm(0, 0);
        z.owe(0, 1, 50);
        Due.is("just enough", z.falls(0, 0), 0);
        z.owe(0, 1, 51);
        Due.is("one too many", z.falls(0, 0), 1);
    }

    private static void safe() {
        ColdHolds x = new ColdHolds();
        x.farm(2, -100);
        Due.is("at 50", x.safe(0), 50);
        Due.is("at 49", x.falls(49, 0), 1);
        x.farm(3, -100);
        Due.is("at 34", x.safe(1), 34);
        Due.is("all", x.safe(-1), 50);
        x.owe(0, 1, 30);
        Due.is("65", x.safe(0), 65);
        Due.is("not owed yet", x.safe(1), 34);
        x.owe(1, 0, 90);
        // 2p - 100 + 90 - 30, while 1 stands; 3p - 100 + 30 - 90, while 0 stands.
        Due.is("both need the other", x.safe(1), 54);
        Due.is("both need the other", x.safe(0), 54);
        x.farm(9, 9999);
        Due.is("safe at 0", x.safe(2), 0);
        x.farm(1, -999);
        Due.is("at 999 at last", x.safe(3), 999);
        Due.is("all", x.safe(-1), 999);
        x.farm(1, -1000);
        Due.is("at none", x.safe(4), -2);
        Due.is("none at which all stand", x.safe(-1), -2);
        Due.is("others still", x.safe(0), 54);
    }
}
