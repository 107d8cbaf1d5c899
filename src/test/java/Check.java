import java.util.NoSuchElementException;

/** What the tests share: telling a text, comparing answers, ending with exit code 1 if one was wrong. */
final class Check {
    private static int wrong = 0;
    private static int asked = 0;

    private Check() {
    }

    interface Call {
        int answer();
    }

    static void due(String call, int got, int want) {
        asked++;
        if (got != want) {
            wrong++;
            System.out.println(call + " answered " + got + ", due is " + want);
        }
    }

    static void due(String call, boolean got, boolean want) {
        due(call, got ? 1 : 0, want ? 1 : 0);
    }

    /** The call is due to throw NoSuchElementException. */
    static void none(String call, Call asking) {
        asked++;
        try {
            int got = asking.answer();
            wrong++;
            System.out.println(call + " answered " + got + ", due is NoSuchElementException");
        } catch (NoSuchElementException e) {
            return;
        }
    }

    /** Feeds a text, 24 signs a call. */
    static int tell(NextLight x, String text) {
        int many = x.count(11);
        for (int i = 0; i < text.length(); i += 24) {
            many = x.feed(eight(text, i), eight(text, i + 8), eight(text, i + 16));
        }
        return many;
    }

    private static long eight(String text, int from) {
        long bytes = 0;
        for (int i = from; i < from + 8; i++) {
            bytes = bytes << 8 | (i < text.length() ? text.charAt(i) : 0);
        }
        return bytes;
    }

    static int town(NextLight x, String text) {
        tell(x, text);
        return x.town();
    }

    static int evening(NextLight x, String text) {
        tell(x, text);
        return x.evening();
    }

    /** A new object with this TOWN, which is due to be one. */
    static NextLight in(String text) {
        NextLight x = new NextLight();
        due("town() of " + text, town(x, text), 0);
        return x;
    }

    /** All that can be seen of how it is, of the EVENING, of what is WATCHED; some 90 calls at most. */
    static String state(NextLight x) {
        StringBuilder seen = new StringBuilder();
        for (int what = 0; what <= 11; what++) {
            seen.append(x.count(what)).append(' ');
        }
        for (int lane = 0; lane < x.count(1); lane++) {
            for (int what = 0; what <= 3; what++) {
                seen.append(x.lane(lane, what)).append(' ');
            }
        }
        for (int walker = 0; walker < x.count(2); walker++) {
            for (int what = 0; what <= 5; what++) {
                seen.append(x.walker(walker, what)).append(' ');
            }
        }
        for (int what = 0; what <= 2; what++) {
            seen.append(x.judged(what)).append(' ').append(x.sets(what)).append(' ');
        }
        return seen.toString();
    }

    static void same(String what, String got, String want) {
        asked++;
        if (!got.equals(want)) {
            wrong++;
            System.out.println(what + " is " + got + ", due is " + want);
        }
    }

    static void finish() {
        System.out.println(asked - wrong + " answers as due, " + wrong + " not");
        if (wrong != 0 || asked == 0) {
            System.exit(1);
        }
    }
}
