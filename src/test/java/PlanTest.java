/** Promises 47 to 49: the plan. */
final class PlanTest {
    private PlanTest() {
    }

    static void run() {
        refused();
        best();
        likeOnes();
    }

    private static void refused() {
        ColdHolds x = new ColdHolds();
        Due.refuses(x, "choice(-1)", -102, () -> x.choice(-1));
        Due.refuses(x, "choice(10000)", -102, () -> x.choice(10000));
        Due.refuses(x, "gives(0, 0, 0)", -101, () -> x.gives(0, 0, 0));
        for (int what = 0; what < 3; what++) {
            Due.is("nothing to choose", x.plan(99999, 5, what), 0);
        }
        Due.is("0", x.choice(0), 0);
        Due.is("1", x.choice(9999), 1);
        Due.is("gives at first", x.gives(1, 4, 999), 0);
        Due.is("gives", x.gives(1, 4, -999), 999);
        Due.is("gives in another year", x.gives(1, 3, 0), 0);
        Due.is("gives", x.gives(1, 4, 0), -999);
        Due.refuses(x, "gives(2, 0, 1000)", -101, () -> x.gives(2, 0, 1000));
        Due.refuses(x, "gives(-1, 0, 0)", -101, () -> x.gives(-1, 0, 0));
        Due.refuses(x, "gives(0, 5, 1000)", -101, () -> x.gives(0, 5, 1000));
        Due.refuses(x, "gives(0, -1, 0)", -101, () -> x.gives(0, -1, 0));
        Due.refuses(x, "gives(0, 0, 1000)", -1002, () -> x.gives(0, 0, 1000));
        Due.refuses(x, "gives(0, 0, -1000)", -1002, () -> x.gives(0, 0, -1000));
        for (int i = 2; i < 8; i++) {
            Due.is("choice", x.choice(i), i);
        }
        Due.refuses(x, "choice 9", -104, () -> x.choice(0));
        Due.refuses(x, "choice 9, outside", -102, () -> x.choice(-1));
        Due.is("choices", x.count(11), 8);
        Due.refuses(x, "plan(-1, 1, 0)", -10002, () -> x.plan(-1, 1, 0));
        Due.refuses(x, "plan(100000, 1, 0)", -10002, () -> x.plan(100000, 1, 0));
        Due.refuses(x, "plan(0, 0, 0)", -10002, () -> x.plan(0, 0, 0));
        Due.refuses(x, "plan(0, 6, 0)", -10002, () -> x.plan(0, 6, 0));
        Due.refuses(x, "plan(0, 1, 3)", -10002, () -> x.plan(0, 1, 3));
        Due.refuses(x, "plan(0, 1, -1)", -10002, () -> x.plan(0, 1, -1));
    }

    private static void plan(ColdHolds x, int coin, int n, int set, int worst, int cost) {
        Due.is("plan(" + coin + ", " + n + ", 0)", x.plan(coin, n, 0), set);
        Due.is("plan(" + coin + ", " + n + ", 1)", x.plan(coin, n, 1), worst);
        Due.is("plan(" + coin + ", " + n + ", 2)", x.plan(coin, n, 2), cost);
    }

    private static void best() {
        ColdHolds x = new ColdHolds();
        x.choice(100);
        x.gives(0, 0, 50);
        plan(x, 99, 1, 0, 0, 0);
        plan(x, 100, 1, 1, 50, 100);
        plan(x, 100, 2, 0, 0, 0);
        x.gives(0, 1, -5);
        plan(x, 100, 2, 0, 0, 0);
        x.choice(60);
        x.gives(1, 0, -20);
        x.gives(1, 1, 30);
        plan(x, 160, 1, 1, 50, 100);
        plan(x, 160, 2, 3, 25, 160);
        plan(x, 159, 2, 0, 0, 0);
        plan(x, 160, 3, 0, 0, 0);
        x.gives(0, 2, 40);
        x.gives(1, 2, -33);
        plan(x, 160, 3, 3, 7, 160);
        x.gives(1, 3, 8);
        x.gives(0, 3, -2);
        plan(x, 160, 4, 3, 6, 160);
        x.gives(1, 4, 1);
        plan(x, 160, 5, 3, 1, 160);
        x.gives(1, 4, -1);
        plan(x, 160, 5, 0, 0, 0);
    }

    private static void likeOnes() {
        ColdHolds x = new ColdHolds();
        x.choice(9);
        x.choice(5);
        x.choice(5);
        x.choice(4);
        for (int i = 0; i < 3; i++) {
            x.gives(i, 0, 10);
        }
        plan(x, 9, 1, 2, 10, 5);
        plan(x, 10, 1, 6, 20, 10);
        x.gives(3, 0, 5);
        plan(x, 9, 1, 10, 15, 9);
        x.gives(3, 0, 0);
        plan(x, 9, 1, 2, 10, 5);
        ColdHolds free = new ColdHolds();
        free.choice(0);
        free.choice(0);
        plan(free, 0, 5, 0, 0, 0);
        free.gives(1, 0, 1);
        plan(free, 0, 1, 2, 1, 0);
    }
}
