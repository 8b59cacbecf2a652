/** Promises 35 to 38: the market. */
final class MarketTest {
    private MarketTest() {
    }

    static void run() {
        refused();
        weeks();
        late();
        turns();
    }

    private static void refused() {
        ColdHolds x = new ColdHolds();
        int[] least = {0, 0, 0, 1};
        int[] most = {999, 99, 6, 6};
        int[] first = {100, 1, 2, 3};
        for (int i = 0; i < 4; i++) {
            int which = i;
            Due.is("market most", x.market(i, most[i]), first[i]);
            Due.is("market least", x.market(i, least[i]), most[i]);
            Due.refuses(x, "market below", -102, () -> x.market(which, least[which] - 1));
            Due.refuses(x, "market above", -102, () -> x.market(which, most[which] + 1));
            Due.is("market", x.market(i, first[i]), least[i]);
        }
        Due.refuses(x, "market(4)", -101, () -> x.market(4, -1));
        Due.refuses(x, "market(-1)", -101, () -> x.market(-1, 1));
        Due.refuses(x, "seller(0, 0)", -102, () -> x.seller(0, 0));
        Due.refuses(x, "seller(100, 0)", -102, () -> x.seller(100, 0));
        Due.refuses(x, "seller(1, -1)", -102, () -> x.seller(1, -1));
        Due.refuses(x, "seller(1, 1000)", -102, () -> x.seller(1, 1000));
        Due.is("seller 0", x.seller(1, 0), 0);
        Due.is("seller 1", x.seller(99, 999), 1);
        for (int i = 2; i < 5; i++) {
            Due.is("seller", x.seller(i, i), i);
        }
        Due.refuses(x, "seller 6", -104, () -> x.seller(1, 1));
        Due.refuses(x, "seller 6, outside", -102, () -> x.seller(0, 1));
        Due.is("sellers", x.count(8), 5);
        Due.refuses(x, "week(-1, 0)", -102, () -> x.week(-1, 0));
        Due.refuses(x, "week(200, 0)", -102, () -> x.week(200, 0));
        Due.refuses(x, "week(0, 4)", -102, () -> x.week(0, 4));
        Due.refuses(x, "week(0, -1)", -102, () -> x.week(0, -1));
        Due.refuses(x, "turns(2)", -102, () -> x.turns(2));
        Due.refuses(x, "turns(-1)", -102, () -> x.turns(-1));
    }

    private static void row(ColdHolds x, int what, int... due) {
        for (int week = 0; week < due.length; week++) {
            Due.is("week(" + week + ", " + what + ")", x.week(week, what), due[week]);
        }
    }

    private static void weeks() {
        ColdHolds x = new ColdHolds();
        row(x, 0, 100, 100, 100, 100);
        row(x, 1, 0, 0, 0, 0);
        x.seller(40, 80);
        x.seller(30, 60);
        // PRICE 3 behind what is shipped, shipping 2 behind the PRICE.
        row(x, 0, 100, 100, 100, 30, 30, 30, 30, 30, 100, 100, 100, 100, 100, 30);
        row(x, 1, 70, 70, 70, 70, 70, 0, 0, 0, 0, 0, 70, 70, 70, 70, 70, 0);
        row(x, 3, 3, 3, 3, 3, 3, 0, 0, 0, 0, 0, 3, 3, 3, 3, 3, 0);
        x.market(1, 0);
        row(x, 0, 100, 100, 100, 100, 100);
        x.market(0, 79);
        row(x, 3, 2, 2, 2);
        row(x, 1, 30, 30, 30);
        x.market(0, 80);
        row(x, 3, 3, 3, 3);
        x.market(1, 99);
        x.market(3, 1);
        x.market(2, 0);
        row(x, 0, 80, 0, 80, 0);
        row(x, 1, 70, 0, 70, 0);
        x.market(2, 1);
        row(x, 0, 80, 0, 0, 80, 80, 0);
        Due.is("the last week", x.week(199, 0), 80);
        Due.is("the last week", x.week(198, 0), 0);
    }

    private static void late() {
        ColdHolds x = new ColdHolds();
        x.seller(40, 80);
        x.seller(30, 20);
        row(x, 2, 0, 0, 0, 1, 1, 0, 0, 0);
        x.seller(1, 31);
        // PRICE 29 from WEEK 3 on.
        row(x, 2, 0, 0, 0, 2, 2, 0);
        x.market(2, 0);
        row(x, 2, 0, 0, 0, 0, 0, 0, 0, 0);
    }

    private static void turns(ColdHolds x, int first, int apart) {
        Due.is("turns(0)", x.turns(0), first);
        Due.is("turns(1)", x.turns(1), apart);
    }

    private static void turns() {
        ColdHolds x = new ColdHolds();
        turns(x, 0, 1);
        x.seller(40, 80);
        turns(x, 0, 10);
        x.market(1, 0);
        // Shipped is 40 from WEEK 0 on: 0 stands ahead of WEEKS 0 to 2.
        turns(x, 3, 1);
        x.market(3, 6);
        turns(x, 6, 1);
        ColdHolds y = new ColdHolds();
        y.seller(10, 50);
        y.market(2, 0);
        y.market(3, 1);
        // PRICE 100, then 90 for good.
        turns(y, 1, 1);
        y.market(2, 3);
        turns(y, 4, 1);
        y.market(0, 50);
        y.market(2, 0);
        // 50, 40, 50, 40 ..
        turns(y, 0, 2);
    }
}
