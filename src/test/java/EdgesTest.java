/** Promises 2 to 50: the least and the greatest of each number of each call, and the ones just outside. */
final class EdgesTest {
    private static final long UNKNOWN = -101, OUTSIDE = -102;
    private static final int LOTS = 3, TEXTS = 4, FLOCKS = 7, FARMS = 9, LINES = 10, CHOICES = 11;

    private EdgesTest() {
    }

    static void run() {
        hold();
        lots();
        texts();
        breaksAndReadings();
        layingAndDriving();
        marketAndFarms();
        ringAndPlan();
        new Row("count", (x, a) -> x.count(a[0]), 5).from(0, 0, 12, OUTSIDE).holds().asks();
    }

    private static void hold() {
        new Row("leg", (x, a) -> x.leg(a[0], a[1]), 40, 10)
            .from(0, 1, 200, OUTSIDE).from(1, -50, 400, OUTSIDE).holds().adds(0, 6, 1);
        new Row("warm", (x, a) -> x.warm(a[0], a[1]), 4, 10)
            .from(0, 0, 11, -1001).from(1, -300, 600, -1002).holds().sets();
        new Row("warmth", (x, a) -> x.warmth(a[0]), 4).from(0, 0, 11, -1001).holds().asks();
        new Row("outer", (x, a) -> x.outer(a[0], a[1]), 4, 10)
            .from(0, 0, 11, UNKNOWN).from(1, 0, 20, OUTSIDE).holds().sets();
        new Row("pipe", (x, a) -> x.pipe(a[0], a[1] == 1), 4, 1).from(0, 0, 11, UNKNOWN).holds();
        int[] least = {0, 0, 1, 0};
        int[] most = {20, 60, 9, 9999};
        for (int which = 0; which < 4; which++) {
            new Row("engine", (x, a) -> x.engine(a[0], a[1]), which, 5)
                .from(0, 0, 3, UNKNOWN).from(1, least[which], most[which], OUTSIDE).holds().sets();
        }
        new Row("breaks", (x, a) -> x.breaks(a[0]), 5).from(0, -1, 1200, OUTSIDE).holds();
        new Row("sea", (x, a) -> x.sea(a[0]), 5).from(0, 0, 9999, -1002).holds().asks();
        new Row("hours", (x, a) -> x.hours(a[0]), 5).from(0, 1, 300, OUTSIDE).holds();
        new Row("first", (x, a) -> x.first(a[0], a[1]), 120, 30)
            .from(0, -300, 600, OUTSIDE).from(1, 0, 300, OUTSIDE).holds().asks();
    }

    private static void lots() {
        new Row("lot", (x, a) -> x.lot(a[1], a[0]), 7, 3)
            .from(0, 0, 11, UNKNOWN).from(1, 0, 5, OUTSIDE).holds().adds(LOTS, 20, 0);
        new Row("lay", (x, a) -> x.lay(a[0], a[1]), 0, 7)
            .numbered(0, LOTS, UNKNOWN).from(1, 0, 11, UNKNOWN).holds().sets();
        new Row("about", (x, a) -> x.about(a[0], a[1]), 0, 4)
            .numbered(0, LOTS, UNKNOWN).from(1, 0, 8, OUTSIDE).holds().asks();
        new Row("as", (x, a) -> x.as(a[0], a[1]), 0, 1)
            .numbered(0, LOTS, UNKNOWN).from(1, 0, 5, OUTSIDE).holds().asks();
    }

    private static void texts() {
        new Row("says", (x, a) -> x.says(a[0], a[1]), 0, 0)
            .from(0, 0, 2, UNKNOWN).numbered(1, LOTS, UNKNOWN).holds().asks();
        new Row("sum", (x, a) -> x.sum(a[0], a[1], a[2]), 0, 0, 1)
            .numbered(0, TEXTS, 0).numbered(1, LOTS, 0).from(2, 0, 1, 0).holds().asks();
    }

    private static void breaksAndReadings() {
        new Row("lost", (x, a) -> x.lost(a[0], a[1]), 20, 0)
            .from(0, 0, 300, OUTSIDE).from(1, 0, 1, OUTSIDE).holds().asks();
        new Row("way", (x, a) -> x.way(a[0]), 20).from(0, 0, 300, OUTSIDE).holds().asks();
        new Row("reading", (x, a) -> x.reading(a[0], a[1]), 20, 50)
            .from(0, 0, 1200, OUTSIDE).from(1, -300, 600, OUTSIDE, -998, -1000).holds().adds(5, 24, 1);
        new Row("reading, a gap,", (x, a) -> x.reading(a[0], a[1]), 20, -999)
            .from(0, 0, 1200, OUTSIDE).adds(5, 24, 1);
        new Row("rate", (x, a) -> x.rate(a[0]), 20).from(0, 1, 50, OUTSIDE).holds().sets();
        new Row("could", (x, a) -> x.could(a[0], a[1]), 20, 0)
            .from(0, 0, 1200, -1002).from(1, 0, 1, -1002).holds().asks();
        new Row("was", (x, a) -> x.was(a[0], a[1], a[2]), 0, 1200, 50)
            .from(0, 0, 1200, OUTSIDE).from(1, 0, 1200, OUTSIDE).from(2, -300, 600, OUTSIDE).holds().asks();
    }

    private static void layingAndDriving() {
        new Row("arrive", (x, a) -> x.arrive(a[0]), 20).from(0, 0, 99, OUTSIDE).holds().adds(6, 8, 1);
        new Row("laid", (x, a) -> x.laid(a[0], a[1], a[2]), 2, 4, 0)
            .from(0, 1, 4, OUTSIDE).from(1, 1, 8, OUTSIDE).from(2, 0, 17, OUTSIDE, 1, 5, 9).holds().asks();
        new Row("flock", (x, a) -> x.flock(a[0], a[1]), 20, 30)
            .from(0, 1, 999, OUTSIDE).from(1, 1, 99, OUTSIDE).holds().adds(FLOCKS, 6, 0);
        new Row("works", (x, a) -> x.works(a[0], a[1]), 2, 30)
            .from(0, 0, 3, UNKNOWN).from(1, 0, 9999, OUTSIDE).holds().sets();
        new Row("days", (x, a) -> x.days(a[0], a[1], a[2]), 0, 2, 30)
            .numbered(0, FLOCKS, UNKNOWN).from(1, 0, 3, UNKNOWN).from(2, 0, 60, OUTSIDE).holds().sets();
        new Row("loss", (x, a) -> x.loss(a[0]), 2).from(0, 0, 9, OUTSIDE).holds().sets();
        new Row("driven", (x, a) -> x.driven(a[0]), 0).from(0, 0, 15, OUTSIDE, 1, 5, 9).holds().asks();
    }

    private static void marketAndFarms() {
        int[] least = {0, 0, 0, 1};
        int[] most = {999, 99, 6, 6};
        for (int which = 0; which < 4; which++) {
            new Row("market", (x, a) -> x.market(a[0], a[1]), which, 5)
                .from(0, 0, 3, UNKNOWN).from(1, least[which], most[which], OUTSIDE).holds().sets();
        }
        new Row("seller", (x, a) -> x.seller(a[0], a[1]), 2, 30)
            .from(0, 1, 99, OUTSIDE).from(1, 0, 999, OUTSIDE).holds().adds(8, 5, 0);
        new Row("week", (x, a) -> x.week(a[0], a[1]), 2, 0)
            .from(0, 0, 199, OUTSIDE).from(1, 0, 3, OUTSIDE).holds().asks();
        new Row("turns", (x, a) -> x.turns(a[0]), 0).from(0, 0, 1, OUTSIDE).holds().asks();
        new Row("farm", (x, a) -> x.farm(a[0], a[1]), 2, 30)
            .from(0, 0, 9, OUTSIDE).from(1, -9999, 9999, OUTSIDE).holds().adds(FARMS, 8, 0);
        new Row("owe", (x, a) -> x.owe(a[0], a[1], a[2]), 1, 2, 30)
            .numbered(0, FARMS, UNKNOWN).numbered(1, FARMS, UNKNOWN).from(2, 0, 999, OUTSIDE).holds().sets();
        new Row("falls", (x, a) -> x.falls(a[0], a[1]), 20, 0)
            .from(0, 0, 999, OUTSIDE).from(1, 0, 1, OUTSIDE).holds().asks();
        new Row("safe", (x, a) -> x.safe(a[0]), 0).upTo(0, -1, x -> x.count(FARMS) - 1, UNKNOWN).holds().asks();
    }

    private static void ringAndPlan() {
        new Row("line", (x, a) -> x.line(a[0], a[1]), 2, 30)
            .from(0, 1, 99, OUTSIDE).from(1, 0, 999, OUTSIDE).holds().adds(LINES, 5, 0);
        int[] most = {999, 99, 100, 999};
        for (int which = 0; which < 4; which++) {
            new Row("ring", (x, a) -> x.ring(a[0], a[1]), which, 5)
                .from(0, 0, 3, UNKNOWN).from(1, 0, most[which], OUTSIDE).holds().sets();
        }
        new Row("earns", (x, a) -> x.earns(a[0], a[1]), 0, 1)
            .numbered(0, LINES, -1).upTo(1, 0, x -> (1 << x.count(LINES)) - 1, -2).holds().asks();
        new Row("stable", (x, a) -> x.stable(a[0]), 0).from(0, 0, 1, OUTSIDE).holds().asks();
        new Row("choice", (x, a) -> x.choice(a[0]), 2).from(0, 0, 9999, OUTSIDE).holds().adds(CHOICES, 8, 0);
        new Row("gives", (x, a) -> x.gives(a[0], a[1], a[2]), 0, 2, 30)
            .numbered(0, CHOICES, UNKNOWN).from(1, 0, 4, UNKNOWN).from(2, -999, 999, -1002).holds().sets();
        new Row("plan", (x, a) -> x.plan(a[0], a[1], a[2]), 40, 2, 0)
            .from(0, 0, 99999, -10002).from(1, 1, 5, -10002).from(2, 0, 2, -10002).holds().asks();
    }
}
