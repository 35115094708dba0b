import java.util.NoSuchElementException;

/** Counts answers that are not the ones due, and hands texts to a KingHears. */
final class Due {
    private int wrong;
    private int looked;

    void same(String what, long got, long want) {
        looked++;
        if (got != want) {
            wrong++;
            System.out.println(what + " answered " + got + ", due is " + want);
        }
    }

    void same(String what, boolean got, boolean want) {
        same(what, got ? 1 : 0, want ? 1 : 0);
    }

    /** The call's answer and the trouble behind it. */
    void refused(KingHears x, String what, long got, long want, int trouble) {
        same(what, got, want);
        same("trouble() after " + what, x.trouble(), trouble);
    }

    void refused(KingHears x, String what, boolean got, boolean want, int trouble) {
        refused(x, what, got ? 1 : 0, want ? 1 : 0, trouble);
    }

    void fraction(String what, long upper, long lower, long wantUpper, long wantLower) {
        same(what + ", the upper WHOLE", upper, wantUpper);
        same(what + ", the lower WHOLE", lower, wantLower);
    }

    int wrong() {
        return wrong;
    }

    void end(String test) {
        System.out.println(test + ": " + looked + " answers, " + wrong + " of them wrong");
        if (wrong != 0) {
            System.exit(1);
        }
    }

    /** Feeds a text, padded with blanks; answers how many bytes THE TAPE has. */
    static int feed(KingHears x, String text) {
        int size = x.size(7);
        for (int at = 0; at < text.length(); at += 20) {
            int[] five = fiveNumbers(text, at);
            size = x.feed(five[0], five[1], five[2], five[3], five[4]);
        }
        return size;
    }

    static int[] fiveNumbers(String text, int at) {
        int[] five = new int[5];
        for (int i = 0; i < 20; i++) {
            int sign = at + i < text.length() ? text.charAt(at + i) & 255 : ' ';
            five[i / 4] = five[i / 4] << 8 | sign;
        }
        return five;
    }

    static int court(KingHears x, String text) {
        feed(x, text);
        return x.court(text.length());
    }

    static KingHears of(String text) {
        KingHears x = new KingHears();
        if (court(x, text) < 0) {
            throw new IllegalStateException("fault " + x.fault() + " at " + x.where() + " of " + text);
        }
        return x;
    }

    /** Whether led(i) throws what the document says; any other exception goes on to the caller. */
    static boolean ledThrows(KingHears x, int i) {
        try {
            x.led(i);
            return false;
        } catch (NoSuchElementException e) {
            return true;
        }
    }
}
