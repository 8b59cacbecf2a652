/** Promises 30 to 34: driving. */
final class DrivingTest {
    private DrivingTest() {
    }

    static void run() {
        refused();
        best();
        likeOnes();
    }

    private static void refused() {
        ColdHolds x = new ColdHolds();
        Due.refuses(x, "flock(0, 1)", -102, () -> x.flock(0, 1));
        Due.refuses(x, "flock(1000, 1)", -102, () -> x.flock(1000, 1));
        Due.refuses(x, "flock(1, 0)", -102, () -> x.flock(1, 0));
        Due.refuses(x, "flock(1, 100)", -102, () -> x.flock(1, 100));
        Due.is("no flocks", x.driven(0), 0);
        Due.is("no flocks", x.driven(10), -1);
        Due.is("0", x.flock(1, 1), 0);
        Due.is("1", x.flock(999, 99), 1);
        for (int i = 2; i < 6; i++) {
            Due.is("flock", x.flock(i, i), i);
        }
        Due.refuses(x, "flock 7", -104, () -> x.flock(1, 1));
        Due.refuses(x, "flock 7, outside", -102, () -> x.flock(0, 1));
        Due.is("flocks", x.count(7), 6);
        Due.is("works at first", x.works(0, 9999), 0);
        Due.is("works", x.works(0, 0), 9999);
        Due.is("works 3", x.works(3, 1), 0);
        Due.refuses(x, "works(4, -1)", -101, () -> x.works(4, -1));
        Due.refuses(x, "works(-1, 0)", -101, () -> x.works(-1, 0));
        Due.refuses(x, "works(0, 10000)", -102, () -> x.works(0, 10000));
        Due.refuses(x, "works(0, -1)", -102, () -> x.works(0, -1));
        Due.is("days at first", x.days(5, 3, 60), 10);
        Due.is("days", x.days(5, 3, 0), 60);
        Due.is("days of another", x.days(0, 3, 10), 10);
        Due.refuses(x, "days(6, 0, 61)", -101, () -> x.days(6, 0, 61));
        Due.refuses(x, "days(-1, 0, 1)", -101, () -> x.days(-1, 0, 1));
        Due.refuses(x, "days(0, 4, 61)", -101, () -> x.days(0, 4, 61));
        Due.refuses(x, "days(0, -1, 1)", -101, () -> x.days(0, -1, 1));
        Due.refuses(x, "days(0, 0, 61)", -102, () -> x.days(0, 0, 61));
        Due.refuses(x, "days(0, 0, -1)", -102, () -> x.days(0, 0, -1));
        Due.is("loss at first", x.loss(9), 1);
        Due.is("loss", x.loss(0), 9);
        Due.refuses(x, "loss(10)", -102, () -> x.loss(10));
        Due.refuses(x, "loss(-1)", -102, () -> x.loss(-1));
        for (int what : new int[] {-1, 1, 9, 16}) {
            Due.refuses(x, "driven(" + what + ")", -102, () -> x.driven(what));
        }
    }

    private static void driven(ColdHolds x, int comes, int... to) {
        Due.is("driven(0)", x.driven(0), comes);
        for (int i = 0; i < 6; i++) {
            Due.is("driven(" + (10 + i) + ")", x.driven(10 + i), i < to.length ? to[i] : -1);
        }
    }

    private static void best() {
        ColdHolds x = new ColdHolds();
        x.flock(100, 50);
        driven(x, 0, 4);
        x.works(2, 99);
        driven(x, 0, 4);
        x.works(2, 100);
        driven(x, 4000, 2);
        x.days(0, 2, 0);
        driven(x, 5000, 2);
        x.days(0, 2, 60);
        driven(x, 0, 2);
        x.loss(0);
        driven(x, 5000, 2);
        x.loss(3);
        x.days(0, 2, 16);
        driven(x, 200, 2);
        x.days(0, 2, 17);
        driven(x, 0, 2);
        x.days(0, 2, 10);
        x.loss(1);
        // The second has more of the room than the first would.
        x.flock(60, 90);
        driven(x, 4800, 4, 2);
        x.works(2, 160);
        driven(x, 8800, 2, 2);
        x.works(0, 60);
        x.days(1, 0, 0);
        driven(x, 4000 + 5400, 2, 0);
    }

    private static void likeOnes() {
        ColdHolds x = new ColdHolds();
        x.flock(10, 20);
        x.flock(10, 20);
        x.flock(10, 20);
        x.works(1, 10);
        x.works(3, 10);
        driven(x, 200, 1, 3, 4);
        x.works(0, 30);
        driven(x, 300, 0, 0, 0);
        ColdHolds lean = new ColdHolds();
        lean.flock(5, 5);
        lean.works(3, 9);
        driven(lean, 0, 3);
    }
}
