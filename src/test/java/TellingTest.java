/** Promises 50 and 51: what is told. */
final class TellingTest {
    private TellingTest() {
    }

    static void run() {
        count();
        digestOfNothing();
        digestOfMuch();
        asTheReadmeTells();
    }

    private static ColdHolds much() {
        ColdHolds x = new ColdHolds();
        x.leg(100, 210);
        x.leg(200, -40);
        x.leg(120, 333);
        x.warm(3, -77);
        x.outer(9, 11);
        x.pipe(0, false);
        x.pipe(6, true);
        x.engine(0, 7);
        x.engine(1, 33);
        x.engine(2, 2);
        x.engine(3, 15);
        x.lot(3, 6);
        x.hours(9);
        x.lot(1, 2);
        Due.tell(x, "W:r*2<t-k");
        Due.tell(x, "S:(h+1)*(h+1)>200");
        Due.tell(x, "C:1=1");
        x.reading(12, 345);
        x.reading(1200, -999);
        x.rate(9);
        x.arrive(8);
        x.arrive(77);
        x.arrive(3);
        x.arrive(0);
        x.flock(12, 34);
        x.flock(56, 78);
        x.days(1, 2, 19);
        x.works(3, 4321);
        x.loss(4);
        x.market(0, 555);
        x.market(1, 66);
        x.market(2, 5);
        x.market(3, 4);
        x.seller(17, 18);
        x.seller(19, 20);
        x.seller(21, 22);
        for (int i = 0; i < 5; i++) {
            x.farm(i, -i * 100);
        }
        x.owe(0, 4, 43);
        x.owe(4, 1, 99);
        for (int i = 1; i <= 4; i++) {
            x.line(i * 10, i * 33);
        }
        x.ring(0, 101);
        x.ring(1, 3);
        x.ring(2, 77);
        x.ring(3, 21);
        for (int i = 0; i < 6; i++) {
            x.choice(1000 * i);
        }
        x.gives(5, 4, -321);
        x.gives(0, 0, 123);
        Due.write(x, "W:xyz+1~");
        return x;
    }

    private static void count() {
        ColdHolds x = much();
        int[] due = {3, 9, 1, 2, 3, 2, 4, 2, 3, 5, 4, 6, 8};
        for (int what = 0; what <= 12; what++) {
            Due.is("count(" + what + ")", x.count(what), due[what]);
        }
        Due.refuses(x, "count(-1)", -102, () -> x.count(-1));
        Due.refuses(x, "count(13)", -102, () -> x.count(13));
    }

    private static long fold(long h, long... numbers) {
        for (long number : numbers) {
            h = 31 * h + number;
        }
        return h;
    }

    private static void digestOfNothing() {
        long h = 257;
        for (int cell = 0; cell < 12; cell++) {
            h = fold(h, 100, 4, cell == 0 ? 1 : 0);
        }
        h = fold(h, 5, 20, 1);
        for (int i = 0; i <= 12; i++) {
            h = fold(h, 150);
        }
        h = fold(h, 5, 0, 0, 0, 0, 1, 100, 1, 2, 3, 50, 2, 80, 10);
        for (int i = 0; i <= 12; i++) {
            h = fold(h, 0);
        }
        Due.is("digest of nothing", new ColdHolds().digest(), h);
    }

    private static void digestOfMuch() {
        ColdHolds x = much();
        long h = 257;
        for (int cell = 0; cell < 12; cell++) {
            h = fold(h, x.warmth(cell), cell == 9 ? 11 : 4, cell == 6 ? 1 : 0);
        }
        h = fold(h, 7, 33, 2);
        h = fold(h, 210, -40, -40, 333, 333, 333, 333, 333, 333, 333, 333, 333, 333);
        for (int lot = 0; lot < 2; lot++) {
            for (int what = 0; what <= 8; what++) {
                h = fold(h, x.about(lot, what));
            }
        }
        for (int text = 0; text < 3; text++) {
            for (int lot = 0; lot < 2; lot++) {
                h = fold(h, x.sum(text, lot, 0), x.sum(text, lot, 1));
            }
        }
        h = fold(h, 9, 12, 345, 1200, -999, 8, 77, 3, 0);
        h = fold(h, 12, 34, 10, 10, 10, 10, 56, 78, 10, 10, 19, 10, 0, 0, 0, 4321, 4);
        h = fold(h, 555, 66, 5, 4, 17, 18, 19, 20, 21, 22);
        for (int a = 0; a < 5; a++) {
            h = fold(h, a, -a * 100);
            for (int b = 0; b < 5; b++) {
                h = fold(h, a == 0 && b == 4 ? 43 : a == 4 && b == 1 ? 99 : 0);
            }
        }
        h = fold(h, 10, 33, 20, 66, 30, 99, 40, 132, 101, 3, 77, 21);
        h = fold(h, 0, 123, 0, 0, 0, 0);
        for (int i = 1; i < 5; i++) {
            h = fold(h, 1000 * i, 0, 0, 0, 0, 0);
        }
        h = fold(h, 5000, 0, 0, 0, 0, -321);
        h = fold(h, 'W', ':', 'x', 'y', 'z', '+', '1', '~');
        h = fold(h, 3, 9, 1, 2, 3, 2, 4, 2, 3, 5, 4, 6, 8);
        Due.is("digest of much", x.digest(), h);
        Due.is("digest again", x.digest(), h);
    }

    private static void asTheReadmeTells() {
        ColdHolds x = new ColdHolds();
        Due.is("the first LEG", x.leg(24, 200), 1);
        Due.is("COAL was 0", x.engine(3, 40), 0);
        Due.is("a CARCASS", x.lot(1, 0), 0);
        Due.is("the ENGINE ran", x.hours(10), 10);
        Due.is("ON", x.way(5), 0);
        Due.is("no CELL 12", x.lot(1, 12), ColdHolds.UNKNOWN);
    }
}
