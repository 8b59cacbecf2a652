/** Promises 50 and 51 at their edges: counts of none and of all, a digest that wraps, the last call that is promised. */
final class TellingEdgesTest {
    private TellingEdgesTest() {
    }

    static void run() {
        counts();
        digestOfAll();
        digestOfTheLeastAndMost();
        theLastCall();
    }

    private static void counts() {
        int[] none = new int[13];
        int[] one = {1, 0, 0, 1, 1, 1, 1, 1, 1, 1, 1, 1, 1};
        int[] all = {6, 0, 9999, 20, 12, 24, 8, 6, 5, 8, 5, 8, 60};
        ColdHolds ended = States.ended();
        for (int what = 0; what <= 12; what++) {
            Due.is("none of " + what, new ColdHolds().count(what), none[what]);
            Due.is("one of " + what, States.one().count(what), one[what]);
            Due.is("all of " + what, States.full().count(what), all[what]);
            Due.is("at the end, " + what, ended.count(what), what == 1 ? 1200 : what == 2 ? 8799 : all[what]);
        }
    }

    private static long fold(long h, long... numbers) {
        for (long number : numbers) {
            h = 31 * h + number;
        }
        return h;
    }

    private static void digestOfAll() {
        for (ColdHolds x : new ColdHolds[] {States.full(), States.ended()}) {
            long h = 257;
            for (int cell = 0; cell < 12; cell++) {
                h = fold(h, x.warmth(cell), 4, cell % 11 == 0 ? 1 : 0);
            }
            h = fold(h, 5, 20, 1);
            for (int hour = 0; hour <= 1200; hour += 100) {
                h = fold(h, hour == 0 ? 400 : -50);
            }
            h = ofLotsAndTexts(x, h);
            h = ofReadingsToSellers(h);
            h = ofFarmsToChoices(h);
            for (char c : "C:(((((((1+2)*3+4)*5+6)*7+8)*9+10)*11+12)*13+14)*15=16+r+t+9".toCharArray()) {
                h = fold(h, c);
            }
            for (int what = 0; what <= 12; what++) {
                h = fold(h, x.count(what));
            }
            Due.is("digest of as many as may be", x.digest(), h);
        }
    }

    private static long ofLotsAndTexts(ColdHolds x, long h) {
        for (int lot = 0; lot < 20; lot++) {
            for (int what = 0; what <= 8; what++) {
                h = fold(h, x.about(lot, what));
            }
        }
        for (int text = 0; text < 12; text++) {
            for (int lot = 0; lot < 20; lot++) {
                h = fold(h, text + 1, x.about(lot, 4) + x.about(lot, 0));
            }
        }
        return h;
    }

    private static long ofReadingsToSellers(long h) {
        h = fold(h, 5);
        for (int reading = 0; reading < 24; reading++) {
            h = fold(h, reading * 20, reading % 5 == 1 ? -999 : 50 + reading);
        }
        h = fold(h, 0, 4, 8, 1, 5, 9, 2, 6);
        for (int flock = 0; flock < 6; flock++) {
            h = fold(h, 100 + 31 * flock, 20 + 7 * flock, 10, 10, 10, flock == 0 ? 4 : 10);
        }
        h = fold(h, 0, 240, 0, 150, 1, 100, 1, 2, 3);
        return fold(h, 20, 90, 21, 75, 22, 60, 23, 45, 24, 30);
    }

    private static long ofFarmsToChoices(long h) {
        for (int farm = 0; farm < 8; farm++) {
            h = fold(h, farm % 4 + 1, -50 * farm);
            for (int other = 0; other < 8; other++) {
                h = fold(h, (other + 1) % 8 == farm ? 40 + farm : 0);
            }
        }
        h = fold(h, 5, 10, 8, 30, 11, 50, 14, 70, 17, 90, 50, 2, 80, 10);
        for (int choice = 0; choice < 8; choice++) {
            h = fold(h, 10 + choice);
            for (int year = 0; year < 5; year++) {
                h = fold(h, year == choice % 5 ? 60 + choice : 0);
            }
        }
        return h;
    }

    private static void digestOfTheLeastAndMost() {
        ColdHolds x = new ColdHolds();
        x.warm(0, -300);
        x.warm(11, 600);
        x.outer(0, 0);
        x.outer(11, 20);
        x.farm(9, -9999);
        x.choice(9999);
        x.gives(0, 4, -999);
        x.reading(1200, -300);
        long h = fold(257, -300, 0, 1);
        for (int cell = 1; cell < 11; cell++) {
            h = fold(h, 100, 4, 0);
        }
        h = fold(h, 600, 20, 0, 5, 20, 1);
        for (int hour = 0; hour <= 12; hour++) {
            h = fold(h, 150);
        }
        h = fold(h, 5, 1200, -300, 0, 0, 0, 0, 1, 100, 1, 2, 3, 9, -9999, 0, 50, 2, 80, 10, 9999, 0, 0, 0, 0, -999);
        h = fold(h, 0, 0, 0, 0, 0, 1, 0, 0, 0, 1, 0, 1, 0);
        Due.is("digest of the least and the most", x.digest(), h);
    }

    private static void theLastCall() {
        ColdHolds x = new ColdHolds();
        for (int call = 1; call < 512; call++) {
            x.warm(call % 12, call);
        }
        Due.is("the 512th call", x.warm(11, 0), 503);
        ColdHolds y = new ColdHolds();
        ColdHolds z = new ColdHolds();
        y.engine(0, 7);
        z.engine(0, 7);
        for (int call = 2; call < 512; call++) {
            z.digest();
        }
        Due.is("the 512th call", z.digest(), y.digest());
    }
}
