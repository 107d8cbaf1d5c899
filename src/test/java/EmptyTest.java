/** Promise 1: nothing is there. Every other promise, asked of an object to which nothing has been told. */
public final class EmptyTest {
    private static final int[] ANY = {Integer.MIN_VALUE, -2, -1, 0, 1, 2, 3, 4, 5, 6, 8, 9, 30, 31, 99, 100,
        Integer.MAX_VALUE};

    public static void main(String[] args) {
        told(new NextLight(), "new: ");
        watched(new NextLight(), "new: ");
        byHand(new NextLight(), "new: ");
        ahead(new NextLight(), "new: ");
        for (String text : new String[] {"", " \n ", "boy 5;", "burns 30;"}) {
            String when = "town " + text + ": ";
            told(Check.in(text), when);
            watched(Check.in(text), when);
            byHand(Check.in(text), when);
            ahead(Check.in(text), when);
        }
        emptiedAgain();
        Check.finish();
    }

    /** Promises 2 to 8. */
    private static void told(NextLight x, String when) {
        for (int what = 0; what <= 11; what++) {
            Check.due(when + "count(" + what + ")", x.count(what), 0);
        }
        for (int any : ANY) {
            Check.due(when + "lane(" + any + ", 0)", x.lane(any, 0), -1);
            Check.due(when + "lane(0, " + any + ")", x.lane(0, any), -1);
            Check.due(when + "walker(" + any + ", 0)", x.walker(any, 0), -1);
            Check.due(when + "walker(0, " + any + ")", x.walker(0, any), -1);
            Check.due(when + "way(" + any + ", 0)", x.way(any, 0), -1);
            Check.due(when + "way(0, " + any + ")", x.way(0, any), -1);
            Check.due(when + "way to itself " + any, x.way(any, any), -1);
            Check.due(when + "next(" + any + ")", x.next(any), -1);
        }
        Check.due(when + "evening() of nothing", x.evening(), 0);
        Check.due(when + "send of no place", Check.evening(x, "send a b;"), 2 + 16 * 5);
        Check.due(when + "wait of no walker", Check.evening(x, "wait w;"), 2 + 16 * 5);
        Check.due(when + "back of no walker", Check.evening(x, "back w;"), 2 + 16 * 5);
        Check.due(when + "no line", x.count(8), 0);
        Check.due(when + "minutes can be told", Check.evening(x, "minute;minute;"), 0);
        Check.due(when + "two lines", x.count(8), 2);
        Check.due(when + "judged(0)", x.judged(0), -1);
        Check.due(when + "judged(1)", x.judged(1), -1);
        Check.due(when + "judged(2)", x.judged(2), 0);
        Check.due(when + "feed nothing", x.feed(0, 0, 0), 0);
        Check.due(when + "town() of nothing", x.town(), 0);
        Check.due(when + "and no line", x.count(8), 0);
    }

    /** Promises 25 to 27. */
    private static void watched(NextLight x, String when) {
        for (int any : ANY) {
            Check.due(when + "watch(" + any + ", 0, true)", x.watch(any, 0, true), false);
            Check.due(when + "watch(0, " + any + ", false)", x.watch(0, any, false), false);
            Check.due(when + "look(" + any + ")", x.look(any), -1);
            Check.due(when + "sets(" + any + ")", x.sets(any), any == 0 ? 1 : any == 1 || any == 2 ? 0 : -1);
        }
        Check.due(when + "nothing is watched", x.count(9), 0);
    }

    /** Promises 9 to 14, 33, 34. */
    private static void byHand(NextLight x, String when) {
        Check.due(when + "undo()", x.undo(), false);
        for (int any : ANY) {
            Check.due(when + "send(" + any + ", 0)", x.send(any, 0), -1);
            Check.due(when + "send(0, " + any + ")", x.send(0, any), -1);
            Check.due(when + "waits(" + any + ")", x.waits(any), -1);
            Check.due(when + "back(" + any + ")", x.back(any), false);
            Check.due(when + "judged(" + any + ")", x.judged(any), any == 0 || any == 1 ? -1 : any == 2 ? 0 : -2);
            Check.due(when + "mark(" + any + ", true)", x.mark(any, true), false);
        }
        Check.due(when + "nothing can be undone", x.undo(), false);
        Check.due(when + "minute()", x.minute(), 0);
        Check.due(when + "minute 1", x.count(3), 1);
        Check.due(when + "one can be undone", x.count(10), 1);
        Check.due(when + "nobody is there to be home", x.count(4), 0);
        Check.due(when + "undo()", x.undo(), true);
        Check.due(when + "minute 0", x.count(3), 0);
        Check.due(when + "undo() again", x.undo(), false);
        x.minute();
        for (int any : ANY) {
            Check.due(when + "mark(" + any + ", false)", x.mark(any, false), any >= 0 && any <= 3);
        }
        x.minute();
        for (int any : ANY) {
            Check.due(when + "mark(" + any + ", true)", x.mark(any, true), any >= 0 && any <= 3);
        }
        Check.due(when + "minute 1 of the mark", x.count(3), 1);
        Check.due(when + "nothing can be undone behind a mark", x.undo(), false);
    }

    /** Promises 15 to 24, 28 to 32. */
    private static void ahead(NextLight x, String when) {
        for (int any : ANY) {
            Check.due(when + "darks(" + any + ")", x.darks(any), -1);
            Check.due(when + "home(" + any + ")", x.home(any), -1);
            Check.due(when + "burns(" + any + ", 0)", x.burns(any, 0), -1);
            Check.due(when + "burns(0, " + any + ")", x.burns(0, any), -1);
            Check.due(when + "delay(" + any + ")", x.delay(any), any == -1 ? 0 : -2);
            Check.due(when + "meet(" + any + ", 1)", x.meet(any, 1), -1);
            Check.due(when + "meet(0, " + any + ")", x.meet(0, any), -1);
            Check.due(when + "longer(" + any + ")", x.longer(any), any >= 0 && any <= 9 ? 0 : -1);
            Check.none(when + "share(" + any + ")", () -> x.share(any));
            Check.due(when + "nights(" + any + ", 1, 0)", x.nights(any, 1, 0), any >= 0 && any <= 9999 ? 0 : -1);
            Check.due(when + "nights(0, " + any + ", 1)", x.nights(0, any, 1), any >= 1 && any <= 20 ? 0 : -1);
            Check.due(when + "nights(0, 1, " + any + ")", x.nights(0, 1, any), any >= 0 && any <= 2 ? 0 : -1);
        }
        Check.due(when + "glow()", x.glow(), 0);
        Check.due(when + "boys()", x.boys(), 0);
        Check.due(when + "alarm()", x.alarm(), 0);
        Check.due(when + "blind()", x.blind(), 0);
        Check.due(when + "thief()", x.thief(), -1);
        Check.due(when + "oil()", x.oil(), 0);
        Check.due(when + "a door needs no town", x.rests(0, 0, 0, -1), 4);
        Check.due(when + "nothing has come of asking", x.count(3) + x.count(10), 0);
    }

    /** A TOWN of nothing behind one with all: as if nothing had been told. */
    private static void emptiedAgain() {
        String full = "place a;place b;lane a b burns 2;walker w plain from a to b at 0;boy 7;burns told;";
        NextLight x = Check.in(full);
        full(x);
        Check.due("an empty town", x.town(), 0);
        told(x, "emptied: ");
        NextLight y = Check.in(full);
        full(y);
        Check.due("a town of blanks", Check.town(y, "   "), 0);
        byHand(y, "emptied: ");
        NextLight z = Check.in(full);
        full(z);
        Check.due("an empty town", z.town(), 0);
        ahead(z, "emptied: ");
        NextLight t = Check.in(full);
        full(t);
        Check.due("an empty town", t.town(), 0);
        watched(t, "emptied: ");
    }

    private static void full(NextLight x) {
        Check.evening(x, "minute;wait w;");
        x.watch(0, 0, true);
        x.delay(0);
        x.send(0, 1);
        x.minute();
        for (int i = 0; i < 4; i++) {
            x.mark(i, false);
        }
    }
}
