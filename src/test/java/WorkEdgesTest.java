/** Promises 28 to 34 at their edges: room for just so many, nothing that comes, ways that are alike. */
final class WorkEdgesTest {
    private WorkEdgesTest() {
    }

    static void run() {
        justRoom();
        whoIsDugFor();
        stacksAlike();
        arrivalsAsked();
        justTaken();
        nothingLeft();
        mostOfAll();
        likeWays();
        flocksAsked();
    }

    private static void justRoom() {
        for (int stacks = 1; stacks <= 4; stacks++) {
            for (int high = 1; high <= 8; high++) {
                ColdHolds x = new ColdHolds();
                for (int many = 0; many <= 8; many++) {
                    boolean room = many <= stacks * high;
                    String told = many + " on " + stacks + " of " + high;
                    Due.is(told, x.laid(stacks, high, 0), room ? 0 : -1);
                    Due.is(told + ", the last", x.laid(stacks, high, 10 + Math.max(0, many - 1)),
                        room && many > 0 ? (many - 1) / high : -1);
                    Due.is(told + ", the first", x.laid(stacks, high, 10), room && many > 0 ? 0 : -1);
                    if (many < 8) {
                        Due.is(told + ", the next", x.laid(stacks, high, 10 + many), -1);
                    }
                    x.arrive(50);
                }
            }
        }
    }

    private static ColdHolds arrived(int... days) {
        ColdHolds x = new ColdHolds();
        for (int day : days) {
            x.arrive(day);
        }
        return x;
    }

    private static void whoIsDugFor() {
        Due.is("on the same DAY", arrived(7, 7).laid(1, 8, 0), 0);
        Due.is("a DAY later above", arrived(7, 8).laid(1, 8, 0), 1);
        Due.is("a DAY earlier above", arrived(8, 7).laid(1, 8, 0), 0);
        Due.is("the first and the last DAY", arrived(0, 99).laid(1, 8, 0), 1);
        Due.is("the last and the first DAY", arrived(99, 0).laid(1, 8, 0), 0);
        Due.is("not straight above", arrived(5, 5, 6).laid(1, 8, 0), 2);
        Due.is("below two, counted once", arrived(1, 2, 3).laid(1, 8, 0), 2);
        Due.is("all but the last", arrived(1, 2, 3, 4, 5, 6, 7, 8).laid(1, 8, 0), 7);
        Due.is("none", arrived(8, 7, 6, 5, 4, 3, 2, 1).laid(1, 8, 0), 0);
        Due.is("two STACKS", arrived(1, 2, 3, 4, 5, 6, 7, 8).laid(2, 8, 0), 6);
        Due.is("four STACKS", arrived(1, 2, 3, 4, 5, 6, 7, 8).laid(4, 8, 0), 4);
    }

    private static void laid(ColdHolds x, int stacks, int high, int... on) {
        for (int i = 0; i < 8; i++) {
            Due.is("laid " + i + " on " + stacks + " of " + high, x.laid(stacks, high, 10 + i), i < on.length ? on[i] : -1);
        }
    }

    private static void stacksAlike() {
        laid(arrived(3, 3, 3, 3, 3, 3, 3, 3), 4, 8, 0, 0, 0, 0, 0, 0, 0, 0);
        laid(arrived(3, 3, 3, 3, 3, 3, 3, 3), 4, 2, 0, 0, 1, 1, 2, 2, 3, 3);
        laid(arrived(1, 2), 2, 8, 0, 1);
        laid(arrived(1, 2), 4, 8, 0, 1);
        // 1 must be dug for on STACK 0 by either; the second's STACK is the least that it can be.
        laid(arrived(1, 2, 3), 2, 8, 0, 0, 1);
        laid(arrived(1, 2, 3), 2, 2, 0, 0, 1);
        laid(arrived(2, 1, 2, 1), 2, 2, 0, 0, 1, 1);
        laid(arrived(2, 1, 2, 1), 2, 8, 0, 0, 1, 0);
        laid(arrived(1, 2, 1, 2), 2, 8, 0, 1, 0, 1);
        laid(arrived(1, 2, 1, 2), 2, 1);
    }

    private static void arrivalsAsked() {
        ColdHolds x = arrived(1, 2, 3, 4, 5, 6, 7, 8);
        Due.is("the 8th", x.laid(4, 2, 17), 3);
        Due.is("18", x.laid(4, 2, 18), -102);
        Due.is("9", x.laid(4, 2, 9), -102);
        Due.is("no room for the 8th", x.laid(1, 7, 17), -1);
        Due.is("no room at all", x.laid(1, 7, 10), -1);
        Due.is("outside ahead of no room", x.laid(1, 1, 18), -102);
        Due.is("no STACKS", x.laid(0, 8, 0), -102);
    }

    private static void driven(ColdHolds x, int comes, int... to) {
        Due.is("what comes", x.driven(0), comes);
        for (int i = 0; i < 6; i++) {
            Due.is("where FLOCK " + i + " goes", x.driven(10 + i), i < to.length ? to[i] : -1);
        }
    }

    private static void justTaken() {
        for (int works = 0; works < 4; works++) {
            ColdHolds x = new ColdHolds();
            x.flock(500, 60);
            x.flock(499, 60);
            driven(x, 0, 4, 4);
            x.works(works, 498);
            driven(x, 0, 4, 4);
            x.works(works, 499);
            driven(x, 499 * 50, 4, works);
            x.works(works, 500);
            driven(x, 500 * 50, works, 4);
            x.works(works, 998);
            driven(x, 500 * 50, works, 4);
            x.works(works, 999);
            driven(x, 999 * 50, works, works);
        }
    }

    private static void nothingLeft() {
        for (int days = 0; days <= 60; days++) {
            for (int loss : new int[] {0, 1, 9}) {
                ColdHolds x = new ColdHolds();
                x.flock(3, 27);
                x.works(2, 3);
                x.days(0, 2, days);
                x.loss(loss);
                driven(x, 3 * Math.max(0, 27 - loss * days), 2);
            }
        }
        ColdHolds lean = new ColdHolds();
        lean.flock(1, 10);
        driven(lean, 0, 4);
        lean.works(3, 1);
        // Nothing comes of it there, nor of none: the least of both.
        driven(lean, 0, 3);
        lean.works(0, 1);
        driven(lean, 0, 0);
        lean.days(0, 3, 9);
        driven(lean, 1, 3);
    }

    private static void mostOfAll() {
        ColdHolds x = new ColdHolds();
        x.loss(0);
        int[] to = new int[6];
        for (int flock = 0; flock < 6; flock++) {
            x.flock(999, 99);
        }
        x.works(1, 5993);
        driven(x, 5 * 999 * 99, 1, 1, 1, 1, 1, 4);
        x.works(1, 5994);
        driven(x, 6 * 999 * 99, 1, 1, 1, 1, 1, 1);
        x.works(0, 9999);
        driven(x, 6 * 999 * 99, to);
        x.works(0, 999);
        x.works(1, 999);
        x.works(2, 999);
        x.works(3, 999);
        driven(x, 4 * 999 * 99, 0, 1, 2, 3, 4, 4);
        ColdHolds least = new ColdHolds();
        least.flock(1, 1);
        least.loss(0);
        least.works(3, 1);
        driven(least, 1, 3);
    }

    private static void likeWays() {
        ColdHolds x = new ColdHolds();
        x.flock(10, 30);
        x.flock(20, 20);
        x.flock(10, 30);
        x.works(2, 20);
        // 200 + 200 by 0 and 2, 200 by 1.
        driven(x, 400, 2, 4, 2);
        x.works(3, 20);
        driven(x, 600, 2, 3, 2);
        x.works(0, 10);
        driven(x, 600, 0, 2, 3);
        x.works(1, 10);
        driven(x, 600, 0, 2, 1);
        ColdHolds y = new ColdHolds();
        y.flock(5, 20);
        y.flock(5, 20);
        y.works(3, 5);
        // Either of both: the first goes, as 3 is less than 4.
        driven(y, 50, 3, 4);
    }

    private static void flocksAsked() {
        ColdHolds x = new ColdHolds();
        for (int flock = 0; flock < 6; flock++) {
            Due.is("no such FLOCK yet", x.driven(10 + flock), -1);
            Due.is("DAYS of no FLOCK", x.days(flock, 0, 0), -101);
            x.flock(1, 1);
            Due.is("to none", x.driven(10 + flock), 4);
        }
        Due.is("16", x.driven(16), -102);
        Due.is("9", x.driven(9), -102);
        Due.is("DAYS of FLOCK 6", x.days(6, 0, 0), -101);
    }
}
