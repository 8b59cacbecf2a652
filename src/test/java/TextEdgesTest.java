/** Promises 16 to 21 at their edges: THE PAGE full and empty, the shortest and longest TEXT, longs that wrap. */
final class TextEdgesTest {
    private static final String TEN = "999*999*999*999*999*999*9";

    private TextEdgesTest() {
    }

    static void run() {
        bytes();
        page();
        places();
        shortestAndLongest();
        eachLetter();
        digits();
        asManyAsMayBe();
        toldLast();
        wrapping();
        comparedAsLongs();
        lettersOfALot();
        lettersOfEachLot();
    }

    private static void bytes() {
        for (int at = 0; at < 8; at++) {
            for (int code : new int[] {0, 1, 125, 126, 127, 128, 255}) {
                ColdHolds x = new ColdHolds();
                x.letters('S');
                long w = 0;
                for (int i = 0; i < at; i++) {
                    w |= 'a' + (long) i << 8 * i;
                }
                w |= (long) code << 8 * at;
                int due = code > 126 ? -102 : 1 + at + (code == 0 ? 0 : 1);
                long before = x.digest();
                Due.is("byte " + at + " is " + code, x.letters(w), due);
                Due.is("letters then", x.count(12), code > 126 ? 1 : due);
                if (code > 126) {
                    Due.is("and nothing else", x.digest(), before);
                }
            }
        }
        for (int gap = 0; gap < 7; gap++) {
            for (int behind = gap + 1; behind < 8; behind++) {
                ColdHolds x = new ColdHolds();
                long w = (long) 'a' << 8 * behind;
                for (int i = 0; i < gap; i++) {
                    w |= (long) 'b' << 8 * i;
                }
                Due.is("byte " + behind + " behind a 0 in " + gap, x.letters(w), -102);
                Due.is("none came", x.count(12), 0);
            }
        }
    }

    private static void page() {
        for (int had = 0; had <= 60; had++) {
            for (int come = 0; come <= 8; come += had < 50 ? 8 : 1) {
                ColdHolds x = new ColdHolds();
                Due.write(x, "x".repeat(had));
                long before = x.digest();
                boolean room = had + come <= 60;
                Due.is(come + " behind " + had, x.letters(Due.word("y".repeat(come))), room ? had + come : -104);
                Due.is("letters then", x.count(12), room ? had + come : had);
                if (!room) {
                    Due.is("and nothing else", x.digest(), before);
                }
            }
        }
        ColdHolds full = new ColdHolds();
        Due.write(full, "x".repeat(60));
        Due.is("blank() of 60", full.blank(), 60);
        Due.is("blank() of none", full.blank(), 0);
        Due.is("room again", full.letters(Due.word("12345678")), 8);
        Due.is("blank() of 8", full.blank(), 8);
    }

    private static int faultOf(String page) {
        ColdHolds x = new ColdHolds();
        Due.write(x, page);
        return x.fault();
    }

    private static void places() {
        Due.is("of an empty page", faultOf(""), 0);
        String good = "W:(((((((1+2)*3+4)*5+6)*7+8)*9+10)*11+12)*13+14)*15=16+r+t+9";
        Due.is("of 60 good letters", faultOf(good), 60);
        for (int place = 0; place < 60; place++) {
            Due.is("at " + place, faultOf(good.substring(0, place) + "!" + good.substring(place + 1)), place);
            Due.is("all ahead of " + place, faultOf(good.substring(0, place)), place);
        }
        Due.is("the first of two", faultOf("W:!!"), 2);
        // No TEXT of 60 letters goes on so, but a longer one does.
        Due.is("TEXTS of any length", faultOf("C:" + "(".repeat(58)), 60);
        Due.is("TEXTS of any length", faultOf("C:" + "(".repeat(57) + "9"), 60);
    }

    private static void shortestAndLongest() {
        ColdHolds x = new ColdHolds();
        Due.is("the shortest", Due.tell(x, "W:r<t"), 0);
        Due.is("60 letters, but no SUM on the right", Due.tell(x, "S:" + "1+".repeat(28) + "1="), -103);
        Due.is("they stay", x.blank(), 60);
        Due.is("60 letters", Due.tell(x, "S:" + "1+".repeat(27) + "1=55"), 1);
        Due.is("60 letters, most within others", Due.tell(x, "C:" + "(".repeat(27) + "2" + ")".repeat(27) + ">r9"), -103);
        Due.is("they stay", x.blank(), 60);
        Due.is("59 letters", Due.tell(x, "C:" + "(".repeat(27) + "2" + ")".repeat(27) + ">9"), 2);
        Due.is("the page is empty", x.count(12), 0);
        x.lot(0, 0);
        Due.is("28 times 1", x.sum(1, 0, 0), 28);
        Due.is("55", x.sum(1, 0, 1), 55);
        Due.is("within 27", x.sum(2, 0, 0), 2);
        Due.is("the last letter", x.sum(2, 0, 1), 9);
    }

    private static void eachLetter() {
        for (int code = 1; code <= 126; code++) {
            char c = (char) code;
            ColdHolds x = new ColdHolds();
            boolean head = "WSC".indexOf(c) >= 0;
            Due.is("first letter " + code, faultOf("" + c), head ? 1 : 0);
            Due.is("second letter " + code, faultOf("W" + c), c == ':' ? 2 : 1);
            boolean factor = "rthk(0123456789".indexOf(c) >= 0;
            Due.is("FACTOR " + code, faultOf("W:" + c), factor ? 3 : 2);
            boolean behind = "+-*<=>".indexOf(c) >= 0;
            Due.is("behind a letter " + code, faultOf("W:r" + c), behind ? 4 : 3);
            boolean digit = "0123456789".indexOf(c) >= 0;
            Due.is("behind a digit " + code, faultOf("W:1" + c), behind || digit ? 4 : 3);
            Due.is("behind three digits " + code, faultOf("W:123" + c), behind ? 6 : 5);
            Due.is("within ( ) " + code, faultOf("W:(r" + c), "+-*)".indexOf(c) >= 0 ? 5 : 4);
            Due.is("behind ) " + code, faultOf("W:(r)" + c), behind ? 6 : 5);
            Due.is("behind the sign " + code, faultOf("W:r<" + c), factor ? 5 : 4);
            Due.is("behind the sign and a letter " + code, faultOf("W:r<t" + c), "+-*".indexOf(c) >= 0 ? 6 : 5);
            Due.write(x, "W:r" + c + "t");
            Due.is("as sign " + code, x.text(), "<=>".indexOf(c) >= 0 ? 0 : -103);
        }
    }

    private static void digits() {
        ColdHolds x = new ColdHolds();
        x.lot(0, 0);
        String[] numbers = {"0", "00", "000", "9", "09", "99", "099", "999", "100", "010", "001"};
        int[] due = {0, 0, 0, 9, 9, 99, 99, 999, 100, 10, 1};
        for (int i = 0; i < numbers.length; i++) {
            Due.is("text of " + numbers[i], Due.tell(x, "W:" + numbers[i] + "=" + numbers[i]), i);
            Due.is("left " + numbers[i], x.sum(i, 0, 0), due[i]);
            Due.is("right " + numbers[i], x.sum(i, 0, 1), due[i]);
        }
        Due.is("four digits", faultOf("W:0000"), 5);
        Due.is("four digits on the right", faultOf("W:r<9999"), 7);
        Due.is("four digits within", faultOf("W:(1000"), 6);
    }

    private static void asManyAsMayBe() {
        ColdHolds x = new ColdHolds();
        x.lot(5, 0);
        Due.is("no TEXT", x.sum(0, 0, 0), 0);
        for (int text = 0; text < 12; text++) {
            Due.is("not yet", x.sum(text, 0, 0), 0);
            Due.is("text " + text, Due.tell(x, "WSC".charAt(text % 3) + ":" + (text + 100) + "<k"), text);
            Due.is("its SUM", x.sum(text, 0, 0), text + 100);
            Due.is("its other SUM", x.sum(text, 0, 1), 5);
        }
        Due.write(x, "W:1=1");
        long before = x.digest();
        Due.is("text 12", x.text(), -104);
        Due.is("nothing is changed", x.digest(), before);
        Due.is("the page stays", x.count(12), 5);
        Due.is("no text 12", x.sum(12, 0, 0), 0);
        x.letters('+');
        Due.is("none, and full", x.text(), -103);
        Due.is("the page stays still", x.blank(), 6);
        Due.is("an empty page, and full", x.text(), -103);
        Due.is("texts", x.count(4), 12);
    }

    private static void toldLast() {
        ColdHolds x = new ColdHolds();
        x.lot(2, 0);
        for (int text = 0; text < 12; text++) {
            Due.tell(x, "WSC".charAt(text % 3) + (text / 3 % 2 == 0 ? ":k=2" : ":k=3"));
            for (int letter = 0; letter < 3; letter++) {
                int last = text - Math.floorMod(text - letter, 3);
                Due.is("says " + letter + " of " + (text + 1), x.says(letter, 0), last < 0 ? -1 : last / 3 % 2 == 0 ? 1 : 0);
            }
        }
        Due.write(x, "W:k=2");
        x.text();
        Due.is("one more is not told", x.says(0, 0), 0);
    }

    private static void sums(String page, long left, long right) {
        ColdHolds x = new ColdHolds();
        x.lot(3, 0);
        Due.is("text of " + page, Due.tell(x, page), 0);
        Due.is("left of " + page, x.sum(0, 0, 0), left);
        Due.is("right of " + page, x.sum(0, 0, 1), right);
        char sign = page.charAt(page.indexOf('<') + page.indexOf('=') + page.indexOf('>') + 2);
        boolean due = sign == '<' ? left < right : sign == '=' ? left == right : left > right;
        Due.is("says of " + page, x.says("WSC".indexOf(page.charAt(0)), 0), due ? 1 : 0);
    }

    private static void wrapping() {
        long six = 999L * 999 * 999 * 999 * 999 * 999;
        sums("W:" + TEN + ">0", 9 * six, 0);
        // 9 times six is below 2 to the 63; with six more it is above, and wraps.
        sums("W:" + TEN + "+999*999*999*999*999*999<0", 10 * six, 0);
        sums("W:0-" + TEN + "-999*999*999*999*999*999>0", -10 * six, 0);
        sums("W:0<" + TEN + "+999*999*999*999*999*999", 0, 10 * six);
        sums("S:999*999*999*999*999*999*10=0", 10 * six, 0);
        sums("S:2*2*2*2*2*2*2*2*2*2*2*2*512*512*512*512*512*64<0", 1L << 63, 0);
        sums("C:128*512*512*512*512*512*512*2=0", 1L << 62, 0);
        sums("C:256*512*512*512*512*512*512*2<0", Long.MIN_VALUE, 0);
        sums("C:512*512*512*512*512*512*512*2=0", 0, 0);
        sums("C:0-256*512*512*512*512*512*512*2<0", Long.MIN_VALUE, 0);
        sums("W:256*512*512*512*512*512*512*2-1>0", Long.MAX_VALUE, 0);
        sums("W:(256*512*512*512*512*512*512*2-1)+1<0", Long.MIN_VALUE, 0);
    }

    private static void comparedAsLongs() {
        long nine = 9L * 999 * 999 * 999 * 999 * 999 * 999;
        // Their difference would wrap.
        sums("W:" + TEN + ">0-" + TEN, nine, -nine);
        sums("S:0-" + TEN + "<" + TEN, -nine, nine);
        // Alike in the lowest 32 bits.
        sums("C:256*256*256*256=0", 1L << 32, 0);
        sums("C:256*256*256*256+7>7", (1L << 32) + 7, 7);
        sums("C:1=1", 1, 1);
        sums("C:2<2", 2, 2);
        sums("C:2>2", 2, 2);
        sums("C:1=2", 1, 2);
        sums("C:1<2", 1, 2);
        sums("C:1>2", 1, 2);
        sums("C:2=1", 2, 1);
        sums("C:2<1", 2, 1);
        sums("C:2>1", 2, 1);
    }

    private static void lettersOfALot() {
        ColdHolds x = new ColdHolds();
        x.engine(0, 0);
        x.outer(3, 0);
        x.outer(8, 0);
        x.warm(3, 600);
        x.warm(8, -300);
        x.hours(2);
        x.lot(3, 3);
        Due.tell(x, "W:r<t");
        Due.tell(x, "S:h=k");
        Due.is("r at once", x.sum(0, 0, 0), 0);
        Due.is("t, the most", x.sum(0, 0, 1), 600);
        Due.is("h at once", x.sum(1, 0, 0), 0);
        Due.is("k", x.sum(1, 0, 1), 3);
        x.hours(1);
        x.lay(0, 8);
        Due.is("r of where it lay", x.sum(0, 0, 0), 131);
        Due.is("t, the least, of where it lies", x.sum(0, 0, 1), -300);
        Due.is("h since it was laid first", x.sum(1, 0, 0), 1);
        x.hours(2);
        Due.is("r stays in the cold", x.sum(0, 0, 0), 131);
        Due.is("h is k", x.says(1, 0), 1);
        for (int i = 0; i < 3; i++) {
            x.hours(300);
        }
        x.hours(295);
        Due.is("h, the most here", x.sum(1, 0, 0), 1198);
    }

    private static void lettersOfEachLot() {
        // Each LOT has its own of all four letters: none speaks for another.
        ColdHolds x = new ColdHolds();
        x.engine(0, 0);
        Due.tell(x, "W:r<t");
        Due.tell(x, "S:h=k");
        for (int lot = 0; lot < 12; lot++) {
            int cell = 11 - lot;
            x.outer(cell, 0);
            x.warm(cell, 10 * lot + 1);
            x.lot(lot % 6, cell);
            x.hours(1);
        }
        for (int lot = 0; lot < 12; lot++) {
            int carcass = (10 * lot + 51) / 10;
            int[] spoils = {0, carcass, carcass, 2 * carcass + 1, 0, 10 * lot + 1 > 100 ? 1 : 0};
            int hours = 12 - lot;
            int rot = hours * spoils[lot % 6];
            Due.is("r of LOT " + lot, x.sum(0, lot, 0), rot);
            Due.is("t of LOT " + lot, x.sum(0, lot, 1), 10 * lot + 1);
            Due.is("h of LOT " + lot, x.sum(1, lot, 0), hours);
            Due.is("k of LOT " + lot, x.sum(1, lot, 1), lot % 6);
            Due.is("W of LOT " + lot, x.says(0, lot), rot < 10 * lot + 1 ? 1 : 0);
            Due.is("S of LOT " + lot, x.says(1, lot), hours == lot % 6 ? 1 : 0);
        }
    }
}
