import java.math.BigInteger;
import java.util.Arrays;

/** The searches and the sailing, against plain ones that try everything. Seeds are told: each run is the same. */
final class OracleTest {
    private OracleTest() {
    }

    static void run() {
        for (int seed = 0; seed < 40; seed++) {
            sailing(new Dice(seed));
            laying(new Dice(seed));
            market(new Dice(seed));
            farms(new Dice(seed));
            ring(new Dice(seed));
            plan(new Dice(seed));
            texts(new Dice(seed));
            faults(new Dice(seed));
        }
        for (int seed = 0; seed < 12; seed++) {
            driving(new Dice(seed));
            readings(new Dice(seed));
        }
    }

    private static int from(Dice r, int least, int most) {
        return least + r.nextInt(most - least + 1);
    }

    /** The hold again, as a grid. */
    private static final class Grid {
        int[][] w = new int[3][4];
        int[][] outer = new int[3][4];
        boolean[][] pipe = new boolean[3][4];
        int leak = 5;
        int cold = 20;
        int burn = 1;
        int coal;
        int now;
        long broken = Long.MAX_VALUE;
        int[] seas = new int[0];
        int[] kind = new int[20];
        int[] cell = new int[20];
        int[] rot = new int[20];
        int lots;

        Grid copy() {
            Grid g = new Grid();
            for (int r = 0; r < 3; r++) {
                g.w[r] = w[r].clone();
            }
            g.outer = outer;
            g.pipe = pipe;
            g.leak = leak;
            g.cold = cold;
            g.burn = burn;
            g.coal = coal;
            g.now = now;
            g.broken = broken;
            g.seas = seas;
            g.kind = kind;
            g.cell = cell;
            g.rot = rot.clone();
            g.lots = lots;
            return g;
        }

        int sea(int hour) {
            return seas.length == 0 ? 150 : seas[Math.min(hour, seas.length - 1)];
        }

        boolean hour(int sea, boolean may) {
            boolean runs = may && coal >= burn;
            coal -= runs ? burn : 0;
            int[][] then = new int[3][4];
            for (int r = 0; r < 3; r++) {
                for (int c = 0; c < 4; c++) {
                    int sum = 0;
                    for (int a = 0; a < 3; a++) {
                        for (int b = 0; b < 4; b++) {
                            sum += Math.abs(a - r) + Math.abs(b - c) == 1 ? w[a][b] - w[r][c] : 0;
                        }
                    }
                    double flow = Math.floor((leak * sum + outer[r][c] * (sea - w[r][c])) / 100.0);
                    then[r][c] = Math.max(-300, w[r][c] + (int) flow - (runs && pipe[r][c] ? cold : 0));
                }
            }
            w = then;
            for (int lot = 0; lot < lots; lot++) {
                int v = w[cell[lot] / 4][cell[lot] % 4];
                int carcass = v < -50 ? 0 : (v + 50) / 10;
                int[] all = {0, carcass, carcass, carcass > 0 ? 2 * carcass + 1 : 0, 0, v > 100 ? 1 : 0};
                rot[lot] += all[kind[lot]];
            }
            return runs;
        }

        int lost() {
            int lost = 0;
            for (int lot = 0; lot < lots; lot++) {
                lost += rot[lot] >= 600 ? 1 : 0;
            }
            return lost;
        }

        int lost(int in, int way) {
            Grid g = copy();
            long end = Math.min(broken, now + in);
            if (way == 0) {
                for (int h = now; h < seas.length; h++) {
                    g.hour(sea(h), h < end);
                }
            } else {
                for (int h = now; h < now + in; h++) {
                    g.hour(sea(h), h < end);
                }
                for (int h = now + in; h > 0; h--) {
                    g.hour(sea(h - 1), false);
                }
            }
            return g.lost();
        }

        int first(int limit, int n) {
            Grid g = copy();
            for (int i = 0; i <= n; i++) {
                for (int c = 0; c < 12; c++) {
                    if (g.w[c / 4][c % 4] > limit) {
                        return 1000 * i + c;
                    }
                }
                g.hour(sea(now + i), now + i < broken);
            }
            return -1;
        }
    }

    private static void sailing(Dice r) {
        ColdHolds x = new ColdHolds();
        Grid g = new Grid();
        for (int c = 0; c < 12; c++) {
            g.w[c / 4][c % 4] = r.nextBoolean() ? 100 : from(r, -300, 600);
            g.outer[c / 4][c % 4] = from(r, 0, 20);
            g.pipe[c / 4][c % 4] = r.nextInt(3) == 0;
            x.warm(c, g.w[c / 4][c % 4]);
            x.outer(c, g.outer[c / 4][c % 4]);
            x.pipe(c, g.pipe[c / 4][c % 4]);
        }
        int legs = r.nextInt(7);
        for (int leg = 0; leg < legs; leg++) {
            int hours = from(r, 1, 60);
            int sea = from(r, -50, 400);
            x.leg(hours, sea);
            int old = g.seas.length;
            g.seas = Arrays.copyOf(g.seas, old + hours);
            Arrays.fill(g.seas, old, old + hours, sea);
        }
        x.engine(0, g.leak = from(r, 0, 20));
        x.engine(1, g.cold = from(r, 0, 60));
        x.engine(2, g.burn = from(r, 1, 9));
        x.engine(3, g.coal = from(r, 0, 600));
        for (int step = 0; step < 12; step++) {
            int kind = from(r, 0, 5);
            int cell = from(r, 0, 11);
            Due.is("lot", x.lot(kind, cell), g.lots);
            g.kind[g.lots] = kind;
            g.cell[g.lots] = cell;
            g.lots++;
            int moved = r.nextInt(g.lots);
            Due.is("lay", x.lay(moved, cell), g.cell[moved]);
            g.cell[moved] = cell;
            if (r.nextInt(4) == 0) {
                int in = from(r, -1, 40);
                x.breaks(in);
                g.broken = in < 0 ? Long.MAX_VALUE : g.now + in;
            }
            int n = from(r, 1, 12);
            int ran = 0;
            for (int i = 0; i < n; i++) {
                ran += g.hour(g.sea(g.now), g.now < g.broken) ? 1 : 0;
                g.now++;
            }
            Due.is("hours", x.hours(n), ran);
            Due.is("coal", x.count(2), g.coal);
            for (int c = 0; c < 12; c++) {
                Due.is("warmth", x.warmth(c), g.w[c / 4][c % 4]);
            }
            for (int lot = 0; lot < g.lots; lot++) {
                Due.is("rot", x.about(lot, 2), g.rot[lot]);
            }
            int in = from(r, 0, r.nextBoolean() ? 20 : 300);
            int on = g.lost(in, 0);
            int back = g.lost(in, 1);
            Due.is("lost on", x.lost(in, 0), on);
            Due.is("lost back", x.lost(in, 1), back);
            Due.is("way", x.way(in), back < on ? 1 : 0);
            int limit = from(r, -300, 600);
            int far = from(r, 0, 300);
            Due.is("first", x.first(limit, far), g.first(limit, far));
        }
    }

    private static void laying(Dice r) {
        ColdHolds x = new ColdHolds();
        int many = from(r, 1, r.nextInt(4) == 0 ? 8 : 6);
        int[] day = new int[many];
        for (int i = 0; i < many; i++) {
            day[i] = from(r, 0, 6);
            x.arrive(day[i]);
        }
        int stacks = from(r, 1, 4);
        int high = from(r, 1, 8);
        int fewest = Integer.MAX_VALUE;
        int[] best = null;
        int[] on = new int[many];
        for (long code = 0; code < Math.round(Math.pow(stacks, many)); code++) {
            long rest = code;
            for (int i = many - 1; i >= 0; i--) {
                on[i] = (int) (rest % stacks);
                rest /= stacks;
            }
            int dug = dug(on, day, high);
            if (dug < fewest) {
                fewest = dug;
                best = on.clone();
            }
        }
        Due.is("laid", x.laid(stacks, high, 0), best == null ? -1 : fewest);
        for (int i = 0; i < 8; i++) {
            Due.is("laid " + i, x.laid(stacks, high, 10 + i), best == null || i >= many ? -1 : best[i]);
        }
    }

    private static int dug(int[] on, int[] day, int high) {
        int[] height = new int[4];
        int dug = 0;
        for (int i = 0; i < on.length; i++) {
            if (++height[on[i]] > high) {
                return Integer.MAX_VALUE;
            }
            boolean below = false;
            for (int j = i + 1; j < on.length; j++) {
                below |= on[j] == on[i] && day[j] > day[i];
            }
            dug += below ? 1 : 0;
        }
        return dug;
    }

    private static void driving(Dice r) {
        ColdHolds x = new ColdHolds();
        int many = from(r, 1, 6);
        int[] sheep = new int[many];
        int[] fat = new int[many];
        int[][] days = new int[many][4];
        int[] takes = new int[5];
        takes[4] = Integer.MAX_VALUE;
        int loss = from(r, 0, 4);
        x.loss(loss);
        boolean alike = r.nextBoolean();
        for (int f = 0; f < many; f++) {
            sheep[f] = alike ? 10 * from(r, 1, 3) : from(r, 1, 999);
            fat[f] = alike ? 10 * from(r, 1, 3) : from(r, 1, 99);
            x.flock(sheep[f], fat[f]);
            for (int w = 0; w < 4; w++) {
                days[f][w] = alike ? from(r, 9, 11) : from(r, 0, 60);
                x.days(f, w, days[f][w]);
            }
        }
        for (int w = 0; w < 4; w++) {
            takes[w] = alike ? 10 * from(r, 0, 5) : from(r, 0, 1500);
            x.works(w, takes[w]);
        }
        int most = -1;
        int[] best = null;
        int[] to = new int[many];
        for (int code = 0; code < Math.round(Math.pow(5, many)); code++) {
            int rest = code;
            for (int i = many - 1; i >= 0; i--) {
                to[i] = rest % 5;
                rest /= 5;
            }
            int[] got = new int[5];
            int comes = 0;
            boolean room = true;
            for (int f = 0; f < many; f++) {
                got[to[f]] += sheep[f];
                room &= got[to[f]] <= takes[to[f]];
                comes += to[f] == 4 ? 0 : sheep[f] * Math.max(0, fat[f] - loss * days[f][to[f]]);
            }
            if (room && comes > most) {
                most = comes;
                best = to.clone();
            }
        }
        Due.is("driven", x.driven(0), most);
        for (int f = 0; f < 6; f++) {
            Due.is("driven " + f, x.driven(10 + f), f < many ? best[f] : -1);
        }
    }

    /** Which WARMTHS can be come to from the left and from the right, one by one. */
    private static void readings(Dice r) {
        ColdHolds x = new ColdHolds();
        int rate = from(r, 1, 50);
        x.rate(rate);
        boolean[][] may = new boolean[1201][901];
        for (boolean[] row : may) {
            Arrays.fill(row, true);
        }
        int many = from(r, 0, 8);
        int last = from(r, -300, 600);
        int at = 0;
        for (int i = 0; i < many; i++) {
            int step = from(r, 0, 90);
            at = Math.min(1200, at + step);
            if (r.nextInt(5) == 0) {
                x.reading(at, -999);
                continue;
            }
            int reach = r.nextInt(12) == 0 ? rate * step + 1 : rate * step;
            last = Math.max(-300, Math.min(600, last + from(r, -reach, reach)));
            x.reading(at, last);
            for (int v = 0; v <= 900; v++) {
                may[at][v] &= v == last + 300;
            }
        }
        boolean[][] could = reached(may, rate);
        boolean none = count(could[0]) == 0;
        for (int i = 0; i < 30; i++) {
            int hour = from(r, 0, i < 20 ? Math.min(1200, at + 50) : 1200);
            int least = 0;
            int greatest = 900;
            while (!none && !could[hour][least]) {
                least++;
            }
            while (!none && !could[hour][greatest]) {
                greatest--;
            }
            Due.is("could 0", x.could(hour, 0), none ? -1000 : least - 300);
            Due.is("could 1", x.could(hour, 1), none ? -1000 : greatest - 300);
            int to = Math.min(1200, hour + from(r, 0, 40));
            int limit = Math.max(-300, Math.min(600, i % 2 == 0 ? from(r, -300, 600) : least - 300 + from(r, -2, 2)));
            int due = none ? -1 : !isIn(could, hour, to, limit) ? 0 : canStayBelow(could, rate, hour, to, limit) ? 1 : 2;
            Due.is("was", x.was(hour, to, limit), due);
        }
    }

    private static int count(boolean[] row) {
        int n = 0;
        for (boolean b : row) {
            n += b ? 1 : 0;
        }
        return n;
    }

    private static boolean[] near(boolean[] row, int rate) {
        int[] upTo = new int[902];
        for (int v = 0; v <= 900; v++) {
            upTo[v + 1] = upTo[v] + (row[v] ? 1 : 0);
        }
        boolean[] near = new boolean[901];
        for (int v = 0; v <= 900; v++) {
            near[v] = upTo[Math.min(900, v + rate) + 1] > upTo[Math.max(0, v - rate)];
        }
        return near;
    }

    private static boolean[][] reached(boolean[][] may, int rate) {
        boolean[][] could = new boolean[may.length][];
        could[0] = may[0].clone();
        for (int h = 1; h < may.length; h++) {
            could[h] = near(could[h - 1], rate);
            for (int v = 0; v <= 900; v++) {
                could[h][v] &= may[h][v];
            }
        }
        for (int h = may.length - 2; h >= 0; h--) {
            boolean[] back = near(could[h + 1], rate);
            for (int v = 0; v <= 900; v++) {
                could[h][v] &= back[v];
            }
        }
        return could;
    }

    private static boolean isIn(boolean[][] could, int from, int to, int limit) {
        for (int h = from; h <= to; h++) {
            for (int v = limit + 301; v <= 900; v++) {
                if (could[h][v]) {
                    return true;
                }
            }
        }
        return false;
    }

    private static boolean canStayBelow(boolean[][] could, int rate, int from, int to, int limit) {
        boolean[][] below = new boolean[to - from + 1][];
        for (int h = from; h <= to; h++) {
            below[h - from] = could[h].clone();
            Arrays.fill(below[h - from], Math.min(901, limit + 301), 901, false);
        }
        return count(reached(below, rate)[0]) > 0;
    }

    private static void market(Dice r) {
        ColdHolds x = new ColdHolds();
        int base = from(r, 0, 999);
        int slope = from(r, 0, r.nextBoolean() ? 99 : 9);
        int lag = from(r, 0, 6);
        int way = from(r, 1, 6);
        x.market(0, base);
        x.market(1, slope);
        x.market(2, lag);
        x.market(3, way);
        int many = from(r, 0, 5);
        int[] lots = new int[many];
        int[] limit = new int[many];
        for (int s = 0; s < many; s++) {
            lots[s] = from(r, 1, 99);
            limit[s] = from(r, 0, Math.min(999, base + 5));
            x.seller(lots[s], limit[s]);
        }
        int[] price = new int[210];
        int[] shipped = new int[210];
        Arrays.fill(price, 0, 10, base);
        for (int w = 10; w < 210; w++) {
            price[w] = Math.max(0, base - slope * shipped[w - way]);
            int late = 0;
            int bits = 0;
            for (int s = 0; s < many; s++) {
                boolean ships = price[w - lag] >= limit[s];
                shipped[w] += ships ? lots[s] : 0;
                bits += ships ? 1 << s : 0;
                late += ships == price[w] >= limit[s] ? 0 : 1;
            }
            if (w % 7 == 0 || w < 40) {
                Due.is("week 0", x.week(w - 10, 0), price[w]);
                Due.is("week 1", x.week(w - 10, 1), shipped[w]);
                Due.is("week 2", x.week(w - 10, 2), late);
                Due.is("week 3", x.week(w - 10, 3), bits);
            }
        }
        int first = -1;
        int apart = -1;
        for (int w = 0; w < 200 && first < 0; w++) {
            for (int later = w + 1; later < 200 && first < 0; later++) {
                if (Arrays.equals(shipped, w + 10 - way, w + 10, shipped, later + 10 - way, later + 10)
                    && Arrays.equals(price, w + 10 - lag, w + 10, price, later + 10 - lag, later + 10)) {
                    first = w;
                    apart = later - w;
                }
            }
        }
        Due.is("turns 0", x.turns(0), first);
        Due.is("turns 1", x.turns(1), apart);
    }

    private static void farms(Dice r) {
        ColdHolds x = new ColdHolds();
        int many = from(r, 1, 8);
        int[] gain = new int[many];
        int[] own = new int[many];
        int[][] owes = new int[many][many];
        for (int f = 0; f < many; f++) {
            gain[f] = from(r, r.nextInt(3) == 0 ? 0 : 1, 9);
            own[f] = from(r, -1500, 1500);
            x.farm(gain[f], own[f]);
        }
        for (int a = 0; a < many; a++) {
            for (int b = 0; b < many; b++) {
                if (a != b && r.nextBoolean()) {
                    owes[a][b] = from(r, 0, 999);
                    x.owe(a, b, owes[a][b]);
                }
            }
        }
        int[] threshold = new int[many + 1];
        Arrays.fill(threshold, -2);
        for (int price = 999; price >= 0; price--) {
            boolean[] fallen = new boolean[many];
            int rounds = 0;
            boolean more = true;
            while (more) {
                boolean[] then = fallen.clone();
                more = false;
                for (int f = 0; f < many; f++) {
                    int has = gain[f] * price + own[f];
                    for (int g = 0; g < many; g++) {
                        has += fallen[g] ? 0 : owes[g][f];
                        has -= owes[f][g];
                    }
                    then[f] |= has < 0;
                    more |= then[f] != fallen[f];
                }
                fallen = then;
                rounds += more ? 1 : 0;
            }
            int bits = 0;
            for (int f = 0; f < many; f++) {
                bits |= fallen[f] ? 1 << f : 0;
                threshold[f] = fallen[f] ? threshold[f] : price;
            }
            threshold[many] = bits == 0 ? price : threshold[many];
            if (price % 97 == 0) {
                Due.is("falls 0", x.falls(price, 0), bits);
                Due.is("falls 1", x.falls(price, 1), rounds);
            }
        }
        for (int f = 0; f < many; f++) {
            Due.is("safe " + f, x.safe(f), threshold[f]);
        }
        Due.is("safe", x.safe(-1), threshold[many]);
    }

    private static void ring(Dice r) {
        ColdHolds x = new ColdHolds();
        int many = from(r, 1, 5);
        int[] ships = new int[many];
        int[] cost = new int[many];
        for (int l = 0; l < many; l++) {
            ships[l] = from(r, 1, r.nextBoolean() ? 99 : 9);
            cost[l] = from(r, 0, 99);
            x.line(ships[l], cost[l]);
        }
        int floor = from(r, 0, 200);
        int rise = from(r, 0, 9);
        int quota = from(r, 60, 100);
        int cut = from(r, 0, 60);
        x.ring(0, floor);
        x.ring(1, rise);
        x.ring(2, quota);
        x.ring(3, cut);
        int hold = 0;
        int best = -1;
        int top = -1;
        for (int set = 0; set < 1 << many; set++) {
            boolean holds = true;
            int all = 0;
            for (int l = 0; l < many; l++) {
                all += (set >> l & 1) * ships[l];
            }
            for (int l = 0; l < many; l++) {
                boolean in = (set >> l & 1) == 1;
                long with = (long) (floor + rise * (in ? all : all + ships[l]) - cost[l]) * ships[l] * quota;
                long without = (long) (floor + rise * (in ? all - ships[l] : all) - cut - cost[l]) * ships[l] * 100;
                Due.is("earns", x.earns(l, set), in ? with : without);
                holds &= in ? without <= with : with <= without;
            }
            if (holds) {
                hold++;
                best = all > top ? set : best;
                top = Math.max(top, all);
            }
        }
        Due.is("stable 0", x.stable(0), hold);
        Due.is("stable 1", x.stable(1), best);
    }

    private static void plan(Dice r) {
        ColdHolds x = new ColdHolds();
        int many = from(r, 1, 8);
        int[] cost = new int[many];
        int[][] gives = new int[many][5];
        int span = r.nextBoolean() ? 3 : 999;
        for (int c = 0; c < many; c++) {
            cost[c] = from(r, 0, span == 3 ? 5 : 9999);
            x.choice(cost[c]);
            for (int y = 0; y < 5; y++) {
                gives[c][y] = from(r, -span, span);
                x.gives(c, y, gives[c][y]);
            }
        }
        for (int n = 1; n <= 5; n++) {
            int coin = from(r, 0, span == 3 ? 20 : 40000);
            int bestSet = 0;
            int bestWorst = Integer.MIN_VALUE;
            int bestCost = 0;
            for (int set = 0; set < 1 << many; set++) {
                int worst = Integer.MAX_VALUE;
                int all = 0;
                for (int y = 0; y < n; y++) {
                    int sum = 0;
                    for (int c = 0; c < many; c++) {
                        sum += (set >> c & 1) * gives[c][y];
                        all += y == 0 ? (set >> c & 1) * cost[c] : 0;
                    }
                    worst = Math.min(worst, sum);
                }
                if (all <= coin && (worst > bestWorst || worst == bestWorst && all < bestCost)) {
                    bestSet = set;
                    bestWorst = worst;
                    bestCost = all;
                }
            }
            Due.is("plan 0", x.plan(coin, n, 0), bestSet);
            Due.is("plan 1", x.plan(coin, n, 1), bestWorst);
            Due.is("plan 2", x.plan(coin, n, 2), bestCost);
        }
    }

    /** A SUM made at random with what it is, as a number of any size. */
    private static BigInteger made(Dice r, StringBuilder b, int depth, int[] named) {
        BigInteger sum = BigInteger.ZERO;
        int products = from(r, 1, 2);
        for (int p = 0; p < products; p++) {
            boolean less = p > 0 && r.nextBoolean();
            b.append(p == 0 ? "" : less ? "-" : "+");
            BigInteger product = BigInteger.ONE;
            int factors = from(r, 1, depth == 0 ? 4 : 2);
            for (int f = 0; f < factors; f++) {
                b.append(f == 0 ? "" : "*");
                product = product.multiply(factor(r, b, depth, named));
            }
            sum = less ? sum.subtract(product) : sum.add(product);
        }
        return sum;
    }

    private static BigInteger factor(Dice r, StringBuilder b, int depth, int[] named) {
        int way = r.nextInt(depth < 2 ? 4 : 3);
        if (way == 3) {
            b.append('(');
            BigInteger v = made(r, b, depth + 1, named);
            b.append(')');
            return v;
        }
        if (way == 2) {
            int letter = r.nextInt(4);
            b.append("rthk".charAt(letter));
            return BigInteger.valueOf(named[letter]);
        }
        String digits = String.format("%0" + from(r, 1, 3) + "d", r.nextInt(10) == 0 ? 999 : r.nextInt(10));
        b.append(digits);
        return new BigInteger(digits);
    }

    private static void texts(Dice r) {
        ColdHolds x = new ColdHolds();
        x.hours(from(r, 1, 5));
        x.lot(from(r, 0, 5), 3);
        x.hours(from(r, 1, 5));
        int[] named = {x.about(0, 2), x.warmth(3), x.about(0, 4), x.about(0, 0)};
        for (int text = 0; text < 12;) {
            StringBuilder b = new StringBuilder();
            int letter = r.nextInt(3);
            b.append("WSC".charAt(letter)).append(':');
            long left = made(r, b, 0, named).longValue();
            char sign = "<=>".charAt(r.nextInt(3));
            b.append(sign);
            long right = made(r, b, 0, named).longValue();
            if (b.length() > 60) {
                continue;
            }
            Due.is("text " + b, Due.tell(x, b.toString()), text);
            Due.is("left of " + b, x.sum(text, 0, 0), left);
            Due.is("right of " + b, x.sum(text, 0, 1), right);
            boolean holds = sign == '<' ? left < right : sign == '=' ? left == right : left > right;
            Due.is("says of " + b, x.says(letter, 0), holds ? 1 : 0);
            text++;
        }
    }

    /** Reads a page by descent; stops where no TEXT goes on. */
    private static final class Reader {
        final String page;
        int at;
        boolean stuck;

        Reader(String page) {
            this.page = page;
        }

        boolean takes(String any) {
            if (!stuck && at < page.length() && any.indexOf(page.charAt(at)) >= 0) {
                at++;
                return true;
            }
            return false;
        }

        void must(String any) {
            if (!takes(any)) {
                stuck = true;
            }
        }

        void text() {
            must("WSC");
            must(":");
            sum();
            must("<=>");
            sum();
        }

        void sum() {
            do {
                do {
                    factor();
                } while (takes("*"));
            } while (takes("+-"));
        }

        void factor() {
            if (takes("(")) {
                sum();
                must(")");
            } else if (takes("0123456789")) {
                boolean ignored = takes("0123456789") && takes("0123456789");
            } else {
                must("rthk");
            }
        }
    }

    private static void faults(Dice r) {
        ColdHolds x = new ColdHolds();
        int texts = 0;
        for (int i = 0; i < 20; i++) {
            StringBuilder b = new StringBuilder("W:");
            made(r, b, 0, new int[4]);
            b.append('>');
            made(r, b, 1, new int[4]);
            for (int j = r.nextInt(3); j > 0; j--) {
                int where = r.nextInt(b.length());
                b.setCharAt(where, "WSC:()0123456789rthk+-*<=> ".charAt(r.nextInt(27)));
            }
            b.setLength(Math.min(b.length(), from(r, 10, 60)));
            Reader read = new Reader(b.toString());
            read.text();
            Due.write(x, b.toString());
            Due.is("fault of " + b, x.fault(), read.at);
            boolean whole = !read.stuck && read.at == b.length();
            int due = !whole ? -103 : texts < 12 ? texts++ : -104;
            Due.is("text of " + b, x.text(), due);
            x.blank();
        }
    }
}
