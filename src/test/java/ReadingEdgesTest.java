/** Promises 24 to 27 at their edges: READINGS that just go together and just do not, limits just met. */
final class ReadingEdgesTest {
    private ReadingEdgesTest() {
    }

    static void run() {
        noneAndGapsAlone();
        one();
        justTogether();
        sameHour();
        asManyAsMayBe();
        cutOff();
        justAbove();
        fromAndTo();
        sureInOneHourOfAll();
    }

    private static void noneAndGapsAlone() {
        ColdHolds x = new ColdHolds();
        for (int told = 0; told <= 24; told++) {
            for (int hour : new int[] {0, 1, 600, 1199, 1200}) {
                Due.is("LEAST, no number", x.could(hour, 0), -300);
                Due.is("GREATEST, no number", x.could(hour, 1), 600);
            }
            Due.is("above -300", x.was(0, 1200, -300), 1);
            Due.is("above 599", x.was(1200, 1200, 599), 1);
            Due.is("above 600", x.was(0, 0, 600), 0);
            Due.is("a gap", x.reading(told * 50, -999), told < 24 ? told + 1 : -104);
        }
        Due.is("gaps are counted", x.count(5), 24);
    }

    private static void one() {
        for (int v : new int[] {-300, -299, 0, 599, 600}) {
            for (int rate : new int[] {1, 5, 50}) {
                ColdHolds x = new ColdHolds();
                x.rate(rate);
                x.reading(600, v);
                for (int hour : new int[] {0, 1, 598, 599, 600, 601, 602, 1199, 1200}) {
                    int far = Math.abs(hour - 600) * rate;
                    Due.is("LEAST of " + hour, x.could(hour, 0), Math.max(-300, v - far));
                    Due.is("GREATEST of " + hour, x.could(hour, 1), Math.min(600, v + far));
                }
            }
        }
        ColdHolds first = new ColdHolds();
        first.reading(0, 100);
        Due.is("behind HOUR 0", first.could(1, 1), 105);
        Due.is("far behind HOUR 0", first.could(100, 1), 600);
        Due.is("farther", first.could(99, 1), 595);
        ColdHolds last = new ColdHolds();
        last.reading(1200, 100);
        Due.is("ahead of HOUR 1200", last.could(1199, 0), 95);
        Due.is("far ahead of it", last.could(1120, 0), -300);
        Due.is("not so far", last.could(1121, 0), -295);
    }

    private static void justTogether() {
        for (int rate : new int[] {1, 5, 50}) {
            for (int apart : new int[] {1, 2, 8}) {
                for (int way = -1; way <= 1; way += 2) {
                    ColdHolds x = new ColdHolds();
                    x.rate(rate);
                    x.reading(100, 150);
                    x.reading(100 + apart, 150 + way * rate * apart);
                    Due.is("just so far", x.could(100, 0), 150);
                    Due.is("in the midst there is one", x.could(101, 0), 150 + way * rate);
                    Due.is("in the midst there is one", x.could(101, 1), 150 + way * rate);
                    ColdHolds y = new ColdHolds();
                    y.rate(rate);
                    y.reading(100 + apart, 150 + way * (rate * apart + 1));
                    y.reading(100, 150);
                    Due.is("one too far", y.could(100, 0), -1000);
                    Due.is("one too far, elsewhere", y.could(1200, 1), -1000);
                    Due.is("one too far", y.was(0, 1200, 0), -1);
                    if (rate < 50) {
                        y.rate(rate + 1);
                        Due.is("not by a RATE of one more", y.could(100, 0), 150);
                    }
                }
            }
        }
    }

    private static void sameHour() {
        ColdHolds x = new ColdHolds();
        x.rate(50);
        x.reading(7, 10);
        x.reading(7, 10);
        x.reading(7, -999);
        Due.is("alike", x.could(7, 1), 10);
        x.reading(7, 11);
        Due.is("unlike by one", x.could(7, 1), -1000);
        ColdHolds y = new ColdHolds();
        y.rate(50);
        y.reading(0, 10);
        y.reading(600, 10);
        y.reading(0, 9);
        Due.is("the first and the last", y.could(600, 0), -1000);
    }

    private static void asManyAsMayBe() {
        ColdHolds x = new ColdHolds();
        for (int i = 0; i < 23; i++) {
            x.reading(i * 50, i);
        }
        Due.is("23 go together", x.could(0, 0), 0);
        Due.is("LEAST of 1110", x.could(1110, 0), 22 - 50);
        x.reading(1110, 73);
        Due.is("the 24th counts", x.could(1110, 0), -1000);
        x.rate(6);
        Due.is("they go together", x.could(1110, 0), 73);
        Due.is("a 25th is refused", x.reading(1110, 74), -104);
        Due.is("they go together still", x.could(1110, 1), 73);
        x.rate(5);
        Due.is("but not now", x.was(0, 0, 0), -1);
    }

    private static void cutOff() {
        ColdHolds x = new ColdHolds();
        x.rate(50);
        x.reading(10, 590);
        x.reading(14, 590);
        Due.is("no higher than 600", x.could(12, 1), 600);
        Due.is("as low as two HOURS go", x.could(12, 0), 490);
        ColdHolds y = new ColdHolds();
        y.rate(50);
        y.reading(10, -290);
        y.reading(14, -290);
        Due.is("no lower than -300", y.could(12, 0), -300);
        Due.is("as high as two HOURS go", y.could(12, 1), -190);
        Due.is("as high as one HOUR goes", y.could(13, 1), -240);
    }

    private static void justAbove() {
        ColdHolds x = new ColdHolds();
        x.reading(100, 40);
        x.reading(110, 40);
        // LEAST of HOUR 105 is 15, GREATEST 65.
        Due.is("LEAST", x.could(105, 0), 15);
        Due.is("GREATEST", x.could(105, 1), 65);
        Due.is("above what is LEAST less 1", x.was(105, 105, 14), 2);
        Due.is("above LEAST", x.was(105, 105, 15), 1);
        Due.is("above what is GREATEST less 1", x.was(105, 105, 64), 1);
        Due.is("above GREATEST", x.was(105, 105, 65), 0);
        ColdHolds y = new ColdHolds();
        y.reading(5, -300);
        Due.is("-300 is not above -300", y.was(5, 5, -300), 0);
        Due.is("it may be an HOUR on", y.was(5, 6, -300), 1);
        ColdHolds z = new ColdHolds();
        z.reading(5, 600);
        Due.is("600 is above 599", z.was(5, 5, 599), 2);
        Due.is("nothing is above 600", z.was(0, 1200, 600), 0);
    }

    private static void fromAndTo() {
        ColdHolds x = new ColdHolds();
        x.reading(0, 50);
        x.reading(1200, 70);
        Due.is("from 0 to 0", x.was(0, 0, 49), 2);
        Due.is("from 0 to 0", x.was(0, 0, 50), 0);
        Due.is("from 1 to 1", x.was(1, 1, 44), 2);
        Due.is("from 1 to 1", x.was(1, 1, 45), 1);
        Due.is("from 1200 to 1200", x.was(1200, 1200, 69), 2);
        Due.is("from 1200 to 1200", x.was(1200, 1200, 70), 0);
        Due.is("from 1199 to 1199", x.was(1199, 1199, 65), 1);
        Due.is("from 0 to 1200", x.was(0, 1200, 69), 2);
        Due.is("from 0 to 1199", x.was(0, 1199, 69), 1);
        for (int hour : new int[] {1, 2, 600, 1200}) {
            Due.is("not in order", x.was(hour, hour - 1, 0), -102);
            Due.is("in order", x.was(hour - 1, hour, 600), 0);
        }
        x.reading(0, 51);
        Due.is("not in order, and not together", x.was(1, 0, 0), -102);
        Due.is("a limit outside, and not together", x.was(0, 1, 601), -102);
        Due.is("an HOUR outside, and not together", x.was(0, 1201, 0), -102);
        Due.is("an HOUR outside, and not together", x.could(1201, 0), -1002);
        Due.is("a side outside, and not together", x.could(0, 2), -1002);
        Due.is("not together", x.could(0, 1), -1000);
    }

    private static void sureInOneHourOfAll() {
        // Each WARMTH that could have been is above 95 in HOUR 50 alone: what may be elsewhere is not asked.
        ColdHolds x = new ColdHolds();
        x.reading(50, 96);
        Due.is("in it", x.was(0, 1200, 95), 2);
        Due.is("ahead of it", x.was(0, 49, 95), 1);
        Due.is("behind it", x.was(51, 1200, 95), 1);
        Due.is("up to it", x.was(0, 50, 95), 2);
        Due.is("from it on", x.was(50, 1200, 95), 2);
        Due.is("above 96", x.was(50, 50, 96), 0);
    }
}
