/** Promises 24 to 27: readings. */
final class ReadingsTest {
    private ReadingsTest() {
    }

    static void run() {
        reading();
        rate();
        could();
        was();
    }

    private static void reading() {
        ColdHolds x = new ColdHolds();
        Due.refuses(x, "reading(-1, 0)", -102, () -> x.reading(-1, 0));
        Due.refuses(x, "reading(1201, 0)", -102, () -> x.reading(1201, 0));
        Due.refuses(x, "reading(0, -301)", -102, () -> x.reading(0, -301));
        Due.refuses(x, "reading(0, 601)", -102, () -> x.reading(0, 601));
        Due.refuses(x, "reading(0, -998)", -102, () -> x.reading(0, -998));
        Due.refuses(x, "reading(0, -1000)", -102, () -> x.reading(0, -1000));
        Due.is("1", x.reading(0, -300), 1);
        Due.is("2", x.reading(1200, 600), 2);
        Due.is("3", x.reading(0, -999), 3);
        for (int i = 4; i <= 24; i++) {
            Due.is("reading", x.reading(7, -999), i);
        }
        Due.refuses(x, "reading 25", -104, () -> x.reading(7, -999));
        Due.refuses(x, "reading 25, outside", -102, () -> x.reading(7, -998));
        Due.is("readings", x.count(5), 24);
    }

    private static void rate() {
        ColdHolds x = new ColdHolds();
        Due.is("rate at first", x.rate(50), 5);
        Due.is("rate", x.rate(1), 50);
        Due.refuses(x, "rate(0)", -102, () -> x.rate(0));
        Due.refuses(x, "rate(51)", -102, () -> x.rate(51));
        Due.is("rate", x.rate(1), 1);
    }

    private static void could() {
        ColdHolds x = new ColdHolds();
        Due.is("least of all", x.could(0, 0), -300);
        Due.is("greatest of all", x.could(1200, 1), 600);
        Due.refuses(x, "could(-1, 0)", -1002, () -> x.could(-1, 0));
        Due.refuses(x, "could(1201, 0)", -1002, () -> x.could(1201, 0));
        Due.refuses(x, "could(0, 2)", -1002, () -> x.could(0, 2));
        Due.refuses(x, "could(0, -1)", -1002, () -> x.could(0, -1));
        x.reading(100, 0);
        Due.is("at it", x.could(100, 0), 0);
        Due.is("at it", x.could(100, 1), 0);
        Due.is("ahead", x.could(97, 0), -15);
        Due.is("ahead", x.could(97, 1), 15);
        Due.is("behind", x.could(104, 0), -20);
        Due.is("behind", x.could(104, 1), 20);
        Due.is("no lower", x.could(160, 0), -300);
        Due.is("no lower", x.could(161, 0), -300);
        Due.is("no higher", x.could(220, 1), 600);
        Due.is("no higher", x.could(221, 1), 600);
        x.reading(103, -999);
        Due.is("a gap tells nothing", x.could(103, 1), 15);
        x.reading(106, 30);
        Due.is("just so", x.could(103, 0), 15);
        Due.is("just so", x.could(103, 1), 15);
        x.reading(106, 30);
        Due.is("twice the same", x.could(106, 1), 30);
        x.rate(4);
        Due.is("too far apart", x.could(0, 0), -1000);
        Due.is("too far apart", x.could(0, 1), -1000);
        Due.refuses(x, "outside ahead of it", -1002, () -> x.could(0, 2));
        x.rate(50);
        Due.is("together again", x.could(106, 0), 30);
        x.reading(106, 31);
        Due.is("two of an hour", x.could(106, 0), -1000);
    }

    private static void was() {
        ColdHolds x = new ColdHolds();
        Due.refuses(x, "was(-1, 0, 0)", -102, () -> x.was(-1, 0, 0));
        Due.refuses(x, "was(0, 1201, 0)", -102, () -> x.was(0, 1201, 0));
        Due.refuses(x, "was(2, 1, 0)", -102, () -> x.was(2, 1, 0));
        Due.refuses(x, "was(0, 1, 601)", -102, () -> x.was(0, 1, 601));
        Due.refuses(x, "was(0, 1, -301)", -102, () -> x.was(0, 1, -301));
        Due.is("may", x.was(0, 0, 599), 1);
        Due.is("none is above 600", x.was(0, 1200, 600), 0);
        Due.is("none is surely above -300", x.was(0, 1200, -300), 1);
        x.reading(50, 100);
        Due.is("surely", x.was(50, 50, 99), 2);
        Due.is("not above", x.was(50, 50, 100), 0);
        Due.is("surely in the first hour", x.was(50, 90, 99), 2);
        Due.is("surely in the last", x.was(10, 50, 99), 2);
        Due.is("surely in the midst", x.was(10, 90, 99), 2);
        Due.is("may have been", x.was(51, 90, 99), 1);
        Due.is("beside it surely", x.was(51, 90, 94), 2);
        Due.is("not quite", x.was(51, 90, 95), 1);
        Due.is("may by the last", x.was(51, 60, 149), 1);
        Due.is("cannot", x.was(51, 60, 150), 0);
        Due.is("may by the first", x.was(40, 49, 149), 1);
        x.reading(50, 101);
        Due.is("do not go together", x.was(0, 0, 0), -1);
        Due.refuses(x, "outside ahead of it", -102, () -> x.was(3, 2, 0));
    }
}
