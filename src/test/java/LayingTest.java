/** Promises 28 and 29: laying. */
final class LayingTest {
    private LayingTest() {
    }

    static void run() {
        arrive();
        refused();
        best();
        room();
    }

    private static ColdHolds arrived(int... days) {
        ColdHolds x = new ColdHolds();
        for (int day : days) {
            x.arrive(day);
        }
        return x;
    }

    private static void arrive() {
        ColdHolds x = new ColdHolds();
        Due.refuses(x, "arrive(-1)", -102, () -> x.arrive(-1));
        Due.refuses(x, "arrive(100)", -102, () -> x.arrive(100));
        Due.is("1", x.arrive(0), 1);
        Due.is("2", x.arrive(99), 2);
        for (int i = 3; i <= 8; i++) {
            Due.is("arrival", x.arrive(i), i);
        }
        Due.refuses(x, "arrival 9", -104, () -> x.arrive(0));
        Due.refuses(x, "arrival 9, outside", -102, () -> x.arrive(100));
        Due.is("arrivals", x.count(6), 8);
    }

    private static void refused() {
        ColdHolds x = arrived(1, 2, 3);
        Due.refuses(x, "laid(0, 1, 0)", -102, () -> x.laid(0, 1, 0));
        Due.refuses(x, "laid(5, 1, 0)", -102, () -> x.laid(5, 1, 0));
        Due.refuses(x, "laid(1, 0, 0)", -102, () -> x.laid(1, 0, 0));
        Due.refuses(x, "laid(1, 9, 0)", -102, () -> x.laid(1, 9, 0));
        for (int what : new int[] {-1, 1, 9, 18}) {
            Due.refuses(x, "laid(4, 8, " + what + ")", -102, () -> x.laid(4, 8, what));
        }
        Due.refuses(x, "laid(4, 8, 17)", -1, () -> x.laid(4, 8, 17));
    }

    private static void best(ColdHolds x, int stacks, int high, int dug, int... on) {
        Due.is("laid(" + stacks + ", " + high + ", 0)", x.laid(stacks, high, 0), dug);
        for (int i = 0; i < 8; i++) {
            int due = i < on.length ? on[i] : -1;
            Due.is("laid(" + stacks + ", " + high + ", " + (10 + i) + ")", x.laid(stacks, high, 10 + i), due);
        }
    }

    private static void best() {
        best(arrived(), 1, 1, 0);
        best(arrived(4), 4, 8, 0, 0);
        best(arrived(5, 5, 5), 2, 8, 0, 0, 0, 0);
        best(arrived(3, 2, 1), 2, 8, 0, 0, 0, 0);
        best(arrived(1, 2, 3), 1, 8, 2, 0, 0, 0);
        best(arrived(1, 2, 3), 2, 8, 1, 0, 0, 1);
        best(arrived(1, 2, 3), 3, 8, 0, 0, 1, 2);
        best(arrived(1, 2, 3), 4, 8, 0, 0, 1, 2);
        // One that lies below two that go later is dug for once.
        best(arrived(1, 3, 2), 1, 8, 1, 0, 0, 0);
        best(arrived(9, 1, 5), 1, 3, 1, 0, 0, 0);
        // Not only what lies straight above counts.
        best(arrived(5, 2, 8), 1, 3, 2, 0, 0, 0);
        best(arrived(2, 5, 1, 4, 3), 2, 5, 0, 0, 1, 0, 1, 1);
    }

    private static void room() {
        best(arrived(3, 2, 1), 2, 2, 0, 0, 0, 1);
        best(arrived(3, 2, 1), 3, 1, 0, 0, 1, 2);
        best(arrived(1, 2, 3, 4), 2, 2, 2, 0, 0, 1, 1);
        best(arrived(1, 2, 3), 2, 1, -1);
        best(arrived(1, 2, 3), 1, 2, -1);
        best(arrived(1, 2, 3, 4, 5, 6, 7, 8), 4, 2, 4, 0, 0, 1, 1, 2, 2, 3, 3);
        best(arrived(1, 2, 3, 4, 5, 6, 7, 8), 4, 8, 4, 0, 0, 0, 0, 0, 1, 2, 3);
        best(arrived(1, 2, 3, 4, 5, 6, 7, 8), 1, 8, 7, 0, 0, 0, 0, 0, 0, 0, 0);
    }
}
