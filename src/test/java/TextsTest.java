/** Promises 16 to 21: texts. */
final class TextsTest {
    private TextsTest() {
    }

    static void run() {
        letters();
        faults();
        text();
        says();
        sums();
    }

    private static void letters() {
        ColdHolds x = new ColdHolds();
        Due.is("nothing comes", x.letters(0L), 0);
        Due.is("one", x.letters('W'), 1);
        Due.is("eight", x.letters(Due.word("abcdefgh")), 9);
        Due.is("of one byte, the least", x.letters(1L), 10);
        Due.is("of one byte, the most", x.letters(126L), 11);
        Due.refuses(x, "127", -102, () -> x.letters(127L));
        Due.refuses(x, "255 on top", -102, () -> x.letters(-1L));
        Due.refuses(x, "128 on top", -102, () -> x.letters(0x8041414141414141L));
        Due.refuses(x, "behind a 0", -102, () -> x.letters(0x4100L));
        Due.refuses(x, "behind a 0, on top", -102, () -> x.letters(0x4100000000000041L));
        Due.is("the page", x.count(12), 11);
        Due.is("blank", x.blank(), 11);
        Due.is("blank again", x.blank(), 0);
        for (int i = 1; i <= 7; i++) {
            x.letters(Due.word("12345678"));
        }
        Due.is("59", x.letters(Due.word("abc")), 59);
        Due.refuses(x, "61", -104, () -> x.letters(Due.word("ab")));
        Due.refuses(x, "outside and full", -102, () -> x.letters(Due.word("ab") | 127L << 16));
        Due.is("60", x.letters(Due.word("a")), 60);
        Due.is("60 and none", x.letters(0L), 60);
        Due.refuses(x, "61", -104, () -> x.letters(1L));
    }

    private static void fault(String page, int due) {
        ColdHolds x = new ColdHolds();
        Due.write(x, page);
        Due.refuses(x, "fault() of " + page, due, () -> x.fault());
        Due.is("letters stay", x.count(12), page.length());
    }

    private static void faults() {
        String[] none = {"", "W", "S:", "C:r", "W:r<", "W:((((", "W:999*999", "S:1=1", "C:(t-1)*2>h", "W:007<k", "W:r<(1"};
        for (String page : none) {
            fault(page, page.length());
        }
        fault("X", 0);
        fault("w:r<1", 0);
        fault("Wr", 1);
        fault("WW", 1);
        fault("W::", 2);
        fault("W:<", 2);
        fault("W:-1", 2);
        fault("W:)", 2);
        fault("W:q", 2);
        fault("W: r", 2);
        fault("W:1234<1", 5);
        fault("W:123r", 5);
        fault("W:rr", 3);
        fault("W:r1", 3);
        fault("W:r(1)", 3);
        fault("W:1r", 3);
        fault("W:r+*2", 4);
        fault("W:r)", 3);
        fault("W:(r<1)", 4);
        fault("W:()", 3);
        fault("W:(1)2", 5);
        fault("W:(1)(", 5);
        fault("W:(1))", 5);
        fault("W:r<1<2", 5);
        fault("W:r<1=2", 5);
        fault("W:r<1)", 5);
        fault("W:r<=1", 4);
        fault("W:r/2", 3);
        fault("W:r<1 ", 5);
        fault("W:1x<y", 3);
        StringBuilder deep = new StringBuilder("W:");
        while (deep.length() < 60) {
            deep.append('(');
        }
        fault(deep.toString(), 60);
    }

    private static void text() {
        ColdHolds x = new ColdHolds();
        Due.refuses(x, "text() of nothing", -103, () -> x.text());
        String[] not = {"W", "W:", "W:r", "W:r<", "W:r<(1", "W:(r<1", "W:r<1+", "W:r<1)", "X:r<1", "W:1234<1", "W:r<1<1"};
        for (String page : not) {
            Due.write(x, page);
            Due.refuses(x, "text() of " + page, -103, () -> x.text());
            x.blank();
        }
        String[] whole = {"W:r<1", "S:1=1", "C:h>12", "W:k<123", "S:((r))>(1)", "W:1+2-3*4<(5)"};
        for (int i = 0; i < whole.length; i++) {
            Due.is("text() of " + whole[i], Due.tell(x, whole[i]), i);
            Due.is("the page is empty then", x.count(12), 0);
        }
        for (int i = whole.length; i < 12; i++) {
            Due.tell(x, "W:1=1");
        }
        Due.is("texts", x.count(4), 12);
        Due.write(x, "W:1=1");
        Due.refuses(x, "text 13", -104, () -> x.text());
        x.letters('<');
        Due.refuses(x, "text 13, and none", -103, () -> x.text());
        ColdHolds deep = new ColdHolds();
        StringBuilder page = new StringBuilder("W:1<");
        for (int i = 0; i < 27; i++) {
            page.append('(');
        }
        page.append('7');
        for (int i = 0; i < 27; i++) {
            page.append(')');
        }
        Due.is("deep", Due.tell(deep, page.toString()), 0);
        deep.lot(0, 0);
        Due.is("deep", deep.sum(0, 0, 1), 7);
    }

    private static void says() {
        ColdHolds x = new ColdHolds();
        x.lot(3, 0);
        x.lot(0, 0);
        for (int letter = 0; letter < 3; letter++) {
            Due.is("without", x.says(letter, 0), -1);
        }
        Due.tell(x, "W:k<3");
        Due.is("W of 3", x.says(0, 0), 0);
        Due.is("W of 0", x.says(0, 1), 1);
        Due.is("S without", x.says(1, 0), -1);
        Due.is("C without", x.says(2, 0), -1);
        Due.tell(x, "S:k=3");
        Due.tell(x, "C:k>3");
        Due.is("S of 3", x.says(1, 0), 1);
        Due.is("S of 0", x.says(1, 1), 0);
        Due.is("C of 3", x.says(2, 0), 0);
        Due.tell(x, "C:k>2");
        Due.is("told last", x.says(2, 0), 1);
        Due.is("told last", x.says(2, 1), 0);
        Due.tell(x, "C:k<0");
        Due.is("told last of all", x.says(2, 0), 0);
        Due.is("W still", x.says(0, 1), 1);
        Due.refuses(x, "says(3, 0)", -101, () -> x.says(3, 0));
        Due.refuses(x, "says(-1, 0)", -101, () -> x.says(-1, 0));
        Due.refuses(x, "says(0, 2)", -101, () -> x.says(0, 2));
        Due.refuses(x, "says(0, -1)", -101, () -> x.says(0, -1));
    }

    private static void sum(String page, long left, long right) {
        ColdHolds x = new ColdHolds();
        x.engine(0, 0);
        x.outer(4, 0);
        x.warm(4, 150);
        x.hours(3);
        x.lot(1, 4);
        x.hours(7);
        Due.is("text() of " + page, Due.tell(x, page), 0);
        Due.is("left of " + page, x.sum(0, 0, 0), left);
        Due.is("right of " + page, x.sum(0, 0, 1), right);
        int letter = "WSC".indexOf(page.charAt(0));
        boolean holds = page.indexOf('<') > 0 ? left < right : page.indexOf('=') > 0 ? left == right : left > right;
        Due.is("says of " + page, x.says(letter, 0), holds ? 1 : 0);
    }

    private static void sums() {
        sum("W:r<t", 140, 150);
        sum("S:h=k", 7, 1);
        sum("C:10-4-3>10-4+3", 3, 9);
        sum("W:2+3*4<2*3+4", 14, 10);
        sum("W:(2+3)*4=20-2*(1-3)", 20, 24);
        sum("W:2-3*4-5*(6-7)*2<0", 0, 0);
        sum("W:100-(20-(3-(4-5)))=84", 84, 84);
        sum("W:007<7", 7, 7);
        sum("W:0-r>0-t", -140, -150);
        sum("W:999*999*999*999*999*999*999<1", 999L * 999 * 999 * 999 * 999 * 999 * 999, 1);
        sum("W:0-999*999*999*999*999*999*999<1", -(999L * 999 * 999 * 999 * 999 * 999 * 999), 1);
        sum("W:(1)*(2)<((3))*k", 2, 3);
        sum("W:1-(2)-(3)*(4)<r-t*h", -13, 140 - 150 * 7);
        ColdHolds x = new ColdHolds();
        Due.is("without a text", x.sum(0, 0, 0), 0);
        Due.tell(x, "W:5<6");
        Due.is("without a lot", x.sum(0, 0, 0), 0);
        x.lot(0, 0);
        Due.is("left", x.sum(0, 0, 0), 5);
        Due.refuses(x, "sum(1, 0, 0)", 0, () -> x.sum(1, 0, 0));
        Due.refuses(x, "sum(-1, 0, 0)", 0, () -> x.sum(-1, 0, 0));
        Due.refuses(x, "sum(0, 1, 0)", 0, () -> x.sum(0, 1, 0));
        Due.refuses(x, "sum(0, -1, 0)", 0, () -> x.sum(0, -1, 0));
        Due.refuses(x, "sum(0, 0, 2)", 0, () -> x.sum(0, 0, 2));
        Due.refuses(x, "sum(0, 0, -1)", 0, () -> x.sum(0, 0, -1));
    }
}
