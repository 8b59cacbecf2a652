/** All that an object would answer, as one number: the digest does not tell what breaks, or which TEXT speaks. */
final class Whole {
    private Whole() {
    }

    /** Asks some two hundred calls, and lets HOURS go by at the end: x is used up. */
    static long of(ColdHolds x) {
        long h = x.digest();
        h = sailing(x, h);
        h = telling(x, h);
        h = searching(x, h);
        h = trading(x, h);
        return goingOn(x, h);
    }

    private static long mix(long h, long v) {
        return h * 1000003L + v;
    }

    private static long sailing(ColdHolds x, long h) {
        for (int hour = 0; hour < 34; hour++) {
            h = mix(h, x.sea(hour));
        }
        for (int limit = -100; limit <= 200; limit += 50) {
            h = mix(h, x.first(limit, 40));
        }
        for (int in = 0; in <= 40; in += 10) {
            h = mix(h, x.lost(in, 0));
            h = mix(h, x.lost(in, 1));
            h = mix(h, x.way(in));
        }
        return h;
    }

    private static long telling(ColdHolds x, long h) {
        h = mix(h, x.fault());
        int lots = x.count(3);
        for (int lot = 0; lot < lots; lot += 3) {
            for (int letter = 0; letter < 3; letter++) {
                h = mix(h, x.says(letter, lot));
            }
            h = mix(h, x.as(lot, 1));
        }
        for (int hour = 0; hour <= 80; hour += 20) {
            h = mix(h, x.could(hour, 0));
            h = mix(h, x.could(hour, 1));
            h = mix(h, x.was(hour, hour + 9, 70));
        }
        return h;
    }

    private static long searching(ColdHolds x, long h) {
        for (int what = 10; what <= 17; what++) {
            h = mix(h, x.laid(3, 4, what));
        }
        h = mix(h, x.laid(2, 8, 0));
        h = mix(h, x.driven(0));
        for (int what = 10; what <= 15; what++) {
            h = mix(h, x.driven(what));
        }
        for (int n = 1; n <= 5; n += 2) {
            h = mix(h, x.plan(40, n, 0));
            h = mix(h, x.plan(40, n, 1));
            h = mix(h, x.plan(40, n, 2));
        }
        return h;
    }

    private static long trading(ColdHolds x, long h) {
        for (int week = 0; week < 10; week += 3) {
            for (int what = 0; what < 4; what++) {
                h = mix(h, x.week(week, what));
            }
        }
        h = mix(h, x.turns(0));
        h = mix(h, x.turns(1));
        for (int price = 0; price < 200; price += 60) {
            h = mix(h, x.falls(price, 0));
            h = mix(h, x.falls(price, 1));
        }
        for (int farm = -1; farm < 8; farm++) {
            h = mix(h, x.safe(farm));
        }
        for (int line = 0; line < 5; line++) {
            h = mix(h, x.earns(line, 0));
            h = mix(h, x.earns(line, 5));
        }
        h = mix(h, x.stable(0));
        return mix(h, x.stable(1));
    }

    private static long goingOn(ColdHolds x, long h) {
        h = mix(h, x.text());
        h = mix(h, x.says(2, 0));
        h = mix(h, x.leg(3, 44));
        h = mix(h, x.lot(3, 1));
        for (int i = 0; i < 20; i++) {
            h = mix(h, x.hours(1));
        }
        h = mix(h, x.hours(30));
        h = mix(h, x.reading(3, 55));
        h = mix(h, x.arrive(6));
        h = mix(h, x.flock(44, 33));
        h = mix(h, x.seller(22, 11));
        h = mix(h, x.farm(2, 3));
        h = mix(h, x.line(3, 2));
        h = mix(h, x.choice(5));
        h = mix(h, x.blank());
        return mix(h, x.digest());
    }
}
