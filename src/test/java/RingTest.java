/** Promises 43 to 46: the ring. */
final class RingTest {
    private RingTest() {
    }

    static void run() {
        refused();
        earns();
        stable();
    }

    private static void refused() {
        ColdHolds x = new ColdHolds();
        Due.refuses(x, "line(0, 0)", -102, () -> x.line(0, 0));
        Due.refuses(x, "line(100, 0)", -102, () -> x.line(100, 0));
        Due.refuses(x, "line(1, -1)", -102, () -> x.line(1, -1));
        Due.refuses(x, "line(1, 1000)", -102, () -> x.line(1, 1000));
        Due.refuses(x, "earns(0, 0)", -1, () -> x.earns(0, 0));
        Due.is("the empty ring holds", x.stable(0), 1);
        Due.is("and is the greatest", x.stable(1), 0);
        Due.is("0", x.line(1, 0), 0);
        Due.refuses(x, "earns(0, 2)", -2, () -> x.earns(0, 2));
        Due.is("1", x.line(99, 999), 1);
        for (int i = 2; i < 5; i++) {
            Due.is("line", x.line(i, i), i);
        }
        Due.refuses(x, "line 6", -104, () -> x.line(1, 1));
        Due.refuses(x, "line 6, outside", -102, () -> x.line(0, 1));
        Due.is("lines", x.count(10), 5);
        int[] most = {999, 99, 100, 999};
        int[] first = {50, 2, 80, 10};
        for (int i = 0; i < 4; i++) {
            int which = i;
            Due.is("ring most", x.ring(i, most[i]), first[i]);
            Due.is("ring least", x.ring(i, 0), most[i]);
            Due.refuses(x, "ring below", -102, () -> x.ring(which, -1));
            Due.refuses(x, "ring above", -102, () -> x.ring(which, most[which] + 1));
            Due.is("ring", x.ring(i, first[i]), 0);
        }
        Due.refuses(x, "ring(4)", -101, () -> x.ring(4, -1));
        Due.refuses(x, "ring(-1)", -101, () -> x.ring(-1, 1));
        Due.refuses(x, "earns(5, -1)", -1, () -> x.earns(5, -1));
        Due.refuses(x, "earns(-1, 0)", -1, () -> x.earns(-1, 0));
        Due.refuses(x, "earns(0, -1)", -2, () -> x.earns(0, -1));
        Due.refuses(x, "earns(0, 32)", -2, () -> x.earns(0, 32));
        Due.refuses(x, "stable(2)", -102, () -> x.stable(2));
        Due.refuses(x, "stable(-1)", -102, () -> x.stable(-1));
    }

    private static void earns() {
        ColdHolds x = new ColdHolds();
        x.line(10, 20);
        x.line(7, 500);
        Due.is("in it", x.earns(0, 1), (50 + 20 - 20) * 10 * 80);
        Due.is("with another", x.earns(0, 3), (50 + 34 - 20) * 10 * 80);
        Due.is("outside", x.earns(0, 2), (50 + 14 - 10 - 20) * 10 * 100);
        Due.is("at a loss", x.earns(1, 2), (50 + 14 - 500) * 7 * 80);
        Due.is("at a loss outside", x.earns(1, 0), (50 - 10 - 500) * 7 * 100);
        x.ring(0, 999);
        x.ring(1, 99);
        x.ring(2, 100);
        x.ring(3, 999);
        Due.is("in it", x.earns(0, 3), (999 + 99 * 17 - 20) * 10 * 100);
        Due.is("outside", x.earns(0, 2), (99 * 7 - 20) * 10 * 100);
    }

    private static void stable(ColdHolds x, int many, int greatest) {
        Due.is("stable(0)", x.stable(0), many);
        Due.is("stable(1)", x.stable(1), greatest);
    }

    private static void stable() {
        ColdHolds x = new ColdHolds();
        x.line(10, 20);
        // In it (50 + 20 - 20) * 800, outside (50 - 10 - 20) * 1000: it comes in.
        stable(x, 1, 1);
        x.ring(2, 40);
        // 20000 both ways: both hold.
        stable(x, 2, 1);
        x.ring(2, 39);
        stable(x, 1, 0);
        ColdHolds y = new ColdHolds();
        y.line(5, 0);
        y.line(5, 0);
        y.ring(0, 100);
        y.ring(1, 0);
        y.ring(2, 100);
        y.ring(3, 0);
        stable(y, 4, 3);
        y.ring(2, 99);
        stable(y, 1, 0);
        // A RISE of 1, QUOTA 95: alone (105 * 95 < 100 * 100), with the other 110 * 95 < 105 * 100.
        y.ring(1, 1);
        y.ring(2, 95);
        stable(y, 1, 0);
        y.ring(2, 96);
        // alone 10080 > 10000, with the other 10560 > 10500
        stable(y, 1, 3);
        ColdHolds no = new ColdHolds();
        no.line(50, 0);
        no.line(1, 100);
        no.ring(0, 0);
        no.ring(1, 1);
        no.ring(2, 50);
        no.ring(3, 0);
        // 0 is better off in it (50 * 50 or 51 * 50 against 0 or 100); 1 always loses, and less in it.
        stable(no, 1, 3);
        ColdHolds tie = new ColdHolds();
        tie.line(3, 0);
        tie.line(3, 0);
        tie.ring(0, 10);
        tie.ring(1, 1);
        tie.ring(2, 80);
        tie.ring(3, 0);
        // Alone 13 * 80 > 10 * 100; with the other 16 * 80 < 13 * 100: just one of the two.
        stable(tie, 2, 1);
        // Nobody and one: the RING of LINE 0 drives LINE 1 in, which drives LINE 0 out, and so on.
        ColdHolds round = new ColdHolds();
        round.line(1, 0);
        round.line(9, 4);
        round.ring(0, 5);
        round.ring(1, 1);
        round.ring(2, 70);
        round.ring(3, 0);
        stableIsAsToldByEarns(round);
    }

    private static void stableIsAsToldByEarns(ColdHolds x) {
        int lines = x.count(10);
        int hold = 0;
        for (int set = 0; set < 1 << lines; set++) {
            boolean holds = true;
            for (int line = 0; line < lines; line++) {
                holds &= x.earns(line, set ^ 1 << line) <= x.earns(line, set);
            }
            hold += holds ? 1 : 0;
        }
        Due.is("stable(0) by earns", x.stable(0), hold);
    }
}
