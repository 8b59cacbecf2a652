/** Promises 35 to 49 at their edges: prices that just suffice, FARMS that just stand, ways that earn alike. */
final class TradeEdgesTest {
    private TradeEdgesTest() {
    }

    static void run() {
        justTheLimit();
        priceNotBelowNothing();
        lagAndWay();
        late();
        sellersAsBits();
        turns();
        justStands();
        asManyRounds();
        thresholds();
        earnsTheMost();
        earnsAlike();
        greatestRing();
        coinJustSuffices();
        worstYear();
        likePlans();
    }

    private static void justTheLimit() {
        for (int base : new int[] {0, 1, 100, 998, 999}) {
            for (int limit = Math.max(0, base - 1); limit <= Math.min(999, base + 1); limit++) {
                ColdHolds x = new ColdHolds();
                x.market(0, base);
                x.seller(7, limit);
                Due.is("BASE " + base + ", LIMIT " + limit, x.week(0, 1), limit <= base ? 7 : 0);
                Due.is("as bits", x.week(0, 3), limit <= base ? 1 : 0);
            }
        }
    }

    private static void priceNotBelowNothing() {
        for (int base = 0; base <= 4; base++) {
            ColdHolds x = new ColdHolds();
            x.market(0, base);
            x.market(2, 0);
            x.market(3, 1);
            x.seller(2, 0);
            Due.is("nothing ahead of WEEK 0", x.week(0, 0), base);
            Due.is("BASE " + base + " less 2", x.week(1, 0), Math.max(0, base - 2));
            Due.is("LIMIT 0 ships at each PRICE", x.week(199, 1), 2);
        }
        ColdHolds most = new ColdHolds();
        for (int seller = 0; seller < 5; seller++) {
            most.seller(99, 0);
        }
        most.market(1, 99);
        most.market(0, 999);
        Due.is("the most that is shipped", most.week(0, 1), 495);
        Due.is("99 times 495 is more than 999", most.week(3, 0), 0);
        most.market(1, 2);
        Due.is("2 times 495", most.week(3, 0), 9);
        most.market(1, 0);
        Due.is("SLOPE 0", most.week(199, 0), 999);
    }

    private static void lagAndWay() {
        for (int lag = 0; lag <= 6; lag++) {
            for (int way = 1; way <= 6; way++) {
                ColdHolds x = new ColdHolds();
                x.market(2, lag);
                x.market(3, way);
                x.seller(40, 80);
                // BASE until WAY WEEKS behind the first that is shipped; that is dear LAG WEEKS on.
                Due.is("WAY " + way + ", the last of BASE", x.week(way - 1, 0), 100);
                Due.is("WAY " + way + ", the first behind", x.week(way, 0), 60);
                Due.is("LAG " + lag + ", ships still", x.week(way + lag - 1, 1), 40);
                Due.is("LAG " + lag + ", ships no more", x.week(way + lag, 1), 0);
                Due.is("60 still", x.week(2 * way + lag - 1, 0), 60);
                Due.is("BASE again", x.week(2 * way + lag, 0), 100);
                Due.is("ships again", x.week(2 * way + 2 * lag, 1), 40);
                Due.is("not yet", x.week(2 * way + 2 * lag - 1, 1), 0);
                Due.is("turns from WEEK 0 on", x.turns(0), 0);
                Due.is("turns as long as both ways", x.turns(1), 2 * (way + lag));
            }
        }
    }

    private static void late() {
        ColdHolds x = new ColdHolds();
        for (int seller = 0; seller < 5; seller++) {
            x.seller(10, 96 + seller);
        }
        // 50 less from WEEK 3 on: none would ship, all do until WEEK 5.
        int[] due = {0, 0, 0, 5, 5, 0, 0, 0, 5, 5, 0, 0};
        for (int week = 0; week < due.length; week++) {
            Due.is("LATE in WEEK " + week, x.week(week, 2), due[week]);
        }
        ColdHolds y = new ColdHolds();
        y.seller(10, 90);
        y.seller(10, 81);
        y.seller(10, 80);
        y.seller(10, 100);
        // 60 from WEEK 3 on, 100 from WEEK 8 on: LATE are they that ship at 60, then they that do not at 100.
        Due.is("they that ship", y.week(3, 2), 4);
        Due.is("they that do not", y.week(8, 2), 4);
        y.market(1, 0);
        Due.is("always BASE", y.week(3, 2), 0);
        y.market(1, 1);
        y.market(2, 0);
        Due.is("LAG 0 is never late", y.week(3, 2) + y.week(4, 2) + y.week(199, 2), 0);
    }

    private static void sellersAsBits() {
        ColdHolds x = new ColdHolds();
        x.market(1, 0);
        Due.is("no SELLERS", x.week(199, 3), 0);
        int[] limits = {100, 101, 0, 999, 99};
        int[] bits = {1, 1, 5, 5, 21};
        int[] shipped = {1, 1, 5, 5, 21};
        for (int seller = 0; seller < 5; seller++) {
            x.seller(1 << seller, limits[seller]);
            Due.is("SELLERS that ship", x.week(199, 3), bits[seller]);
            Due.is("what is shipped", x.week(199, 1), shipped[seller]);
        }
        x.market(0, 999);
        Due.is("all ship", x.week(0, 3), 31);
        Due.is("all of it", x.week(0, 1), 31);
    }

    private static void turns() {
        ColdHolds x = new ColdHolds();
        x.market(1, 9);
        x.market(2, 6);
        x.market(3, 6);
        int[] limits = {96, 86, 66, 46, 26};
        for (int seller = 0; seller < 5; seller++) {
            x.seller(2, limits[seller]);
        }
        // Each 12 WEEKS more go or stay: what is shipped is 10, 0, 10, ..
        Due.is("shipped first", x.week(0, 1), 10);
        Due.is("turns at", x.turns(0), 0);
        Due.is("turns by", x.turns(1), 24);
        ColdHolds slow = new ColdHolds();
        slow.market(2, 6);
        slow.market(3, 6);
        slow.seller(20, 50);
        // From WEEK 6 on 20 and more were shipped in all WEEKS looked at; PRICES are 80 from WEEK 6 on.
        Due.is("behind what stood ahead of WEEK 0", slow.turns(0), 12);
        Due.is("each WEEK alike then", slow.turns(1), 1);
        slow.market(1, 0);
        Due.is("PRICES alike, what was shipped is not", slow.turns(0), 6);
        slow.market(3, 1);
        Due.is("WAY 1", slow.turns(0), 1);
        slow.market(1, 1);
        Due.is("WAY 1, LAG 6", slow.turns(0), 7);
        slow.market(2, 0);
        Due.is("WAY 1, LAG 0", slow.turns(0), 1);
    }

    private static void justStands() {
        for (int gain : new int[] {0, 1, 9}) {
            for (int price : new int[] {0, 1, 998, 999}) {
                for (int more = -1; more <= 1; more++) {
                    if (gain * price + more > 9999) {
                        continue;
                    }
                    ColdHolds x = new ColdHolds();
                    x.farm(gain, more - gain * price);
                    Due.is("GAIN " + gain + " at " + price + ", " + more, x.falls(price, 0), more < 0 ? 1 : 0);
                    Due.is("rounds", x.falls(price, 1), more < 0 ? 1 : 0);
                }
            }
        }
        ColdHolds x = new ColdHolds();
        x.farm(0, 999);
        x.farm(0, 0);
        x.owe(0, 1, 999);
        Due.is("has just what it OWES", x.falls(0, 0), 0);
        x.farm(0, 0);
        x.owe(0, 2, 1);
        Due.is("OWES one more", x.falls(0, 0), 1);
        x.owe(1, 0, 1);
        Due.is("is owed that one more", x.falls(0, 0), 0);
        x.farm(0, -1);
        x.owe(1, 0, 0);
        x.owe(3, 0, 1);
        Due.is("is owed it by one that falls", x.falls(0, 0), 9);
        Due.is("in two rounds", x.falls(0, 1), 2);
    }

    private static void asManyRounds() {
        for (int many = 0; many <= 8; many++) {
            ColdHolds once = new ColdHolds();
            for (int farm = 0; farm < many; farm++) {
                once.farm(1, -1);
            }
            Due.is("all of " + many + " at once", once.falls(0, 0), (1 << many) - 1);
            Due.is("in one round", once.falls(0, 1), many == 0 ? 0 : 1);
            Due.is("none at 1", once.falls(1, 0), 0);
            Due.is("in no round", once.falls(1, 1), 0);
        }
        // Each owes the next 100 and has but what it is owed; the last has less than nothing without.
        ColdHolds x = new ColdHolds();
        x.farm(1, 99);
        for (int farm = 1; farm < 8; farm++) {
            x.farm(0, farm == 7 ? -100 : 0);
        }
        for (int farm = 0; farm < 7; farm++) {
            x.owe(farm, farm + 1, 100);
        }
        Due.is("all 8 fall", x.falls(0, 0), 255);
        Due.is("in 8 rounds", x.falls(0, 1), 8);
        Due.is("none falls", x.falls(1, 0), 0);
        Due.is("in no round", x.falls(1, 1), 0);
        Due.is("THRESHOLD of the last", x.safe(7), 1);
        Due.is("SAFE", x.safe(-1), 1);
        x.owe(0, 1, 99);
        Due.is("the first stands, the second has too little", x.falls(0, 0), 254);
        Due.is("in 7 rounds", x.falls(0, 1), 7);
    }

    private static void thresholds() {
        for (int own : new int[] {-9999, -8992, -8991, -999, -1, 0, 1, 9999}) {
            for (int gain : new int[] {0, 1, 9}) {
                ColdHolds x = new ColdHolds();
                x.farm(gain, own);
                int due = -2;
                for (int price = 999; price >= 0; price--) {
                    due = gain * price + own >= 0 ? price : due;
                }
                Due.is("THRESHOLD of " + gain + ", " + own, x.safe(0), due);
                Due.is("SAFE of " + gain + ", " + own, x.safe(-1), due);
                if (due > 0) {
                    Due.is("at one less", x.falls(due - 1, 0), 1);
                }
                if (due >= 0) {
                    Due.is("at it", x.falls(due, 0), 0);
                }
            }
        }
        ColdHolds x = new ColdHolds();
        for (int farm = 0; farm < 8; farm++) {
            Due.is("no FARM yet", x.safe(farm), -101);
            x.farm(1, -100 * farm - 1);
            Due.is("its THRESHOLD", x.safe(farm), 100 * farm + 1);
            Due.is("SAFE is the greatest", x.safe(-1), 100 * farm + 1);
        }
        Due.is("FARM 8", x.safe(8), -101);
        Due.is("the first as ahead", x.safe(0), 1);
    }

    private static void earnsTheMost() {
        ColdHolds x = new ColdHolds();
        x.ring(0, 999);
        x.ring(1, 99);
        x.ring(2, 100);
        x.ring(3, 0);
        for (int line = 0; line < 5; line++) {
            x.line(99, 0);
        }
        Due.is("the most in it", x.earns(4, 31), (999L + 99 * 495) * 99 * 100);
        Due.is("the most outside", x.earns(4, 15), (999L + 99 * 396) * 99 * 100);
        ColdHolds y = new ColdHolds();
        y.ring(0, 0);
        y.ring(1, 0);
        y.ring(2, 100);
        y.ring(3, 999);
        y.line(99, 999);
        Due.is("the least in it", y.earns(0, 1), -999L * 99 * 100);
        Due.is("the least outside", y.earns(0, 0), -1998L * 99 * 100);
        y.ring(2, 0);
        Due.is("QUOTA 0", y.earns(0, 1), 0);
        Due.is("outside without QUOTA", y.earns(0, 0), -1998L * 99 * 100);
        ColdHolds sets = new ColdHolds();
        Due.is("no LINES", sets.earns(0, 0), -1);
        for (int lines = 1; lines <= 5; lines++) {
            sets.line(1, 0);
            int all = 1 << lines;
            Due.is("all of " + lines, sets.earns(0, all - 1), (50 + 2 * lines) * 80);
            Due.is("one bit too far of " + lines, sets.earns(0, all), -2);
            Due.is("no such LINE, no such set", sets.earns(lines, all), -1);
            Due.is("none of " + lines, sets.earns(lines - 1, 0), 4000);
        }
    }

    private static void earnsAlike() {
        // FLOOR 100, no RISE, no COST: in it 100 times QUOTA, outside 100 less CUT times 100.
        for (int quota = 88; quota <= 92; quota++) {
            ColdHolds x = new ColdHolds();
            x.ring(0, 100);
            x.ring(1, 0);
            x.ring(2, quota);
            x.ring(3, 10);
            for (int lines = 1; lines <= 5; lines++) {
                x.line(lines, 0);
                int all = 1 << lines;
                Due.is("RINGS that hold, QUOTA " + quota, x.stable(0), quota == 90 ? all : 1);
                Due.is("the greatest, QUOTA " + quota, x.stable(1), quota < 90 ? 0 : all - 1);
            }
        }
        ColdHolds none = new ColdHolds();
        Due.is("without LINES the RING of none holds", none.stable(0), 1);
        Due.is("the RING of none", none.stable(1), 0);
    }

    private static void greatestRing() {
        // Just one of two alike holds: by SHIPS both are alike, the first is of least bits.
        ColdHolds x = new ColdHolds();
        x.line(3, 0);
        x.line(3, 0);
        x.ring(0, 10);
        x.ring(1, 1);
        x.ring(2, 80);
        x.ring(3, 0);
        Due.is("two hold", x.stable(0), 2);
        Due.is("the first", x.stable(1), 1);
        // Alone (15 or 16 times 70 above 10 times 100), not both (21 * 70 below 15 * 100): the one with more SHIPS.
        for (int first = 5; first <= 6; first++) {
            ColdHolds y = new ColdHolds();
            y.line(first, 0);
            y.line(11 - first, 0);
            y.ring(0, 10);
            y.ring(1, 1);
            y.ring(2, 70);
            y.ring(3, 0);
            Due.is("two hold", y.stable(0), 2);
            Due.is("the greater", y.stable(1), first == 6 ? 1 : 2);
        }
        // LINES 0 and 1 together, or LINE 2 alone, which has as many SHIPS as they: 3 is less than 4, as bits.
        ColdHolds bits = new ColdHolds();
        bits.line(1, 45);
        bits.line(1, 45);
        bits.line(2, 0);
        bits.ring(0, 70);
        bits.ring(1, 10);
        bits.ring(2, 80);
        bits.ring(3, 0);
        Due.is("these two hold", bits.stable(0), 2);
        Due.is("the least, though of more LINES", bits.stable(1), 3);
    }

    private static void plan(ColdHolds x, int coin, int n, int set, int worst, int cost) {
        Due.is("set for " + coin + ", " + n, x.plan(coin, n, 0), set);
        Due.is("worst for " + coin + ", " + n, x.plan(coin, n, 1), worst);
        Due.is("COST for " + coin + ", " + n, x.plan(coin, n, 2), cost);
    }

    private static void coinJustSuffices() {
        ColdHolds x = new ColdHolds();
        int cost = 0;
        for (int choice = 0; choice < 8; choice++) {
            x.choice(9999);
            for (int year = 0; year < 5; year++) {
                x.gives(choice, year, 999);
            }
            int all = (1 << choice + 1) - 1;
            cost += 9999;
            plan(x, cost, 5, all, 999 * (choice + 1), cost);
            plan(x, 99999, 5, all, 999 * (choice + 1), cost);
            plan(x, cost - 1, 5, all >> 1, 999 * choice, cost - 9999);
        }
        plan(x, 0, 5, 0, 0, 0);
        plan(x, 9998, 1, 0, 0, 0);
        ColdHolds free = new ColdHolds();
        free.choice(0);
        free.gives(0, 0, 1);
        plan(free, 0, 1, 1, 1, 0);
    }

    private static void worstYear() {
        for (int worst = 0; worst < 5; worst++) {
            ColdHolds x = new ColdHolds();
            x.choice(1);
            for (int year = 0; year < 5; year++) {
                x.gives(0, year, year == worst ? 3 : 10);
            }
            for (int n = 1; n <= 5; n++) {
                plan(x, 1, n, 1, worst < n ? 3 : 10, 1);
            }
            x.gives(0, worst, -999);
            for (int n = 1; n <= 5; n++) {
                plan(x, 1, n, worst < n ? 0 : 1, worst < n ? 0 : 10, worst < n ? 0 : 1);
            }
        }
        ColdHolds low = new ColdHolds();
        for (int choice = 0; choice < 8; choice++) {
            low.choice(0);
            for (int year = 0; year < 5; year++) {
                low.gives(choice, year, -999);
            }
        }
        plan(low, 99999, 5, 0, 0, 0);
    }

    private static void likePlans() {
        ColdHolds x = new ColdHolds();
        x.choice(6);
        x.choice(5);
        x.choice(5);
        for (int choice = 0; choice < 3; choice++) {
            x.gives(choice, 0, 4);
        }
        // Of like ones the cheapest, of these the least.
        plan(x, 6, 1, 2, 4, 5);
        plan(x, 11, 1, 6, 8, 10);
        plan(x, 16, 1, 7, 12, 16);
        plan(x, 15, 1, 6, 8, 10);
        // What gives nothing and costs nothing is not taken.
        x.choice(0);
        plan(x, 16, 1, 7, 12, 16);
        x.gives(3, 0, 1);
        plan(x, 16, 1, 15, 13, 16);
        // Two cheap ones or a dear one: 3 is less than 4, as bits.
        ColdHolds bits = new ColdHolds();
        for (int choice = 0; choice < 3; choice++) {
            bits.choice(choice == 2 ? 8 : 4);
            bits.gives(choice, 0, choice == 2 ? 6 : 3);
        }
        plan(bits, 8, 1, 3, 6, 8);
        plan(bits, 7, 1, 1, 3, 4);
        plan(bits, 12, 1, 5, 9, 12);
    }
}
