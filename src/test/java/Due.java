import java.util.function.LongSupplier;

/** Counts what answered as is due, and prints what did not. */
final class Due {
    static int passed;
    static int failed;

    private Due() {
    }

    static void is(String call, long got, long want) {
        if (got == want) {
            passed++;
        } else {
            failed++;
            System.out.println(call + " answered " + got + ", due is " + want);
        }
    }

    static void isNot(String call, long got, long refusal) {
        if (got != refusal) {
            passed++;
        } else {
            failed++;
            System.out.println(call + " was refused with " + got);
        }
    }

    /** A refusal is answered, and changes nothing. */
    static void refuses(ColdHolds x, String call, long want, LongSupplier asked) {
        long before = x.digest();
        is(call, asked.getAsLong(), want);
        is(call + ", then digest()", x.digest(), before);
    }

    /** A page of letters, eight a call; answers what the last call answered. */
    static int write(ColdHolds x, String page) {
        int answer = x.count(12);
        for (int from = 0; from < page.length(); from += 8) {
            answer = x.letters(word(page.substring(from, Math.min(from + 8, page.length()))));
        }
        return answer;
    }

    static long word(String letters) {
        long w = 0;
        for (int i = letters.length() - 1; i >= 0; i--) {
            w = w << 8 | letters.charAt(i);
        }
        return w;
    }

    static int tell(ColdHolds x, String page) {
        write(x, page);
        return x.text();
    }
}
