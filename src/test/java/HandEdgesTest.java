import java.util.function.ToIntFunction;

/** Promises 5 to 14, 33, 34: boundaries just inside and just beyond, and that all stays when a call is refused. */
public final class HandEdgesTest {
    /** p, l, d go; h has no WAY; s is where he goes to. */
    private static final String TOWN = "place a;place b;place c;place off;lane a b burns 2;lane b c burns 1;"
        + "walker p plain from a to c at 0;walker l lamp from c to a at 3;walker d drunk from a to b at 1;"
        + "walker h plain from a to off at 0;walker s plain from b to b at 0;boy 7;";
    private static final String ROW = "place a;place b;place c;place d;place e;place f;lane a b burns 1;lane b c burns 1;"
        + "lane c d burns 1;lane d e burns 1;lane e f burns 1;";
    /** All that a TOWN can have. */
    private static final String FULL = ROW + "lane f a burns 2;lane a d burns 3;lane b e burns 4;"
        + "walker u plain from a to b at 0;walker v lamp from b to c at 1;walker w blind from c to d at 2;"
        + "walker x drunk from d to e at 3;walker y plain from e to f at 4;walker z plain from f to a at 30;";
    private static final int[] FAR = {Integer.MIN_VALUE, Integer.MIN_VALUE + 1, -1000, -3, -2, -1, 6, 7, 8, 9, 1000,
        Integer.MAX_VALUE - 1, Integer.MAX_VALUE};

    public static void main(String[] args) {
        refusedCalls();
        asking();
        faultsLeaveAll();
        fullTown();
        waysToItselfAndNone();
        equalWays();
        outFromHisMinute();
        minuteByWhatBurnsThen();
        drunkThreeTimes();
        waitingBehindTheLater();
        turningBack();
        sixteenUndone();
        forgettingWhatCanBeUndone();
        judgedLines();
        fourMarks();
        counts();
        Check.finish();
    }

    /** In minute 1, with an EVENING, something WATCHED, two that can be undone and MARK 0. */
    private static NextLight rich() {
        NextLight x = Check.in(TOWN);
        Check.evening(x, "minute;send a off;minute;");
        x.watch(0, 1, true);
        x.minute();
        x.send(1, 2);
        x.mark(0, false);
        return x;
    }

    private static void stays(String call, int want, ToIntFunction<NextLight> asking) {
        NextLight x = rich();
        String before = Check.state(x);
        Check.due(call, asking.applyAsInt(x), want);
        Check.same("how it is behind " + call, Check.state(x), before);
        Check.due("undo() behind " + call, x.undo(), true);
        Check.due("the send is undone behind " + call, x.count(6), 0);
        Check.due("mark(0, true) behind " + call, x.mark(0, true), true);
        Check.due("other marks behind " + call, x.mark(1, true) || x.mark(2, true) || x.mark(3, true), false);
    }

    private static int one(boolean so) {
        return so ? 1 : 0;
    }

    private static void refusedCalls() {
        for (int far : FAR) {
            stays("send(" + far + ", 0)", -1, x -> x.send(far, 0));
            stays("send(0, " + far + ")", -1, x -> x.send(0, far));
            stays("send(" + far + ", " + far + ")", -1, x -> x.send(far, far));
            stays("waits(" + far + ")", -1, x -> x.waits(far));
            stays("back(" + far + ")", 0, x -> one(x.back(far)));
            stays("watch(" + far + ", 0)", 0, x -> one(x.watch(far, 0, true)));
            stays("mark(" + far + ", false)", 0, x -> one(x.mark(far, false)));
            stays("mark(" + far + ", true)", 0, x -> one(x.mark(far, true)));
        }
        stays("send, no lane", -1, x -> x.send(0, 2));
        stays("send to the lonely one", -1, x -> x.send(0, 3));
        stays("send to itself", -1, x -> x.send(1, 1));
        stays("send beyond the places", -1, x -> x.send(0, 4));
        stays("waits beyond the walkers", -1, x -> x.waits(5));
        stays("waits, no way", -1, x -> x.waits(3));
        stays("waits, home", -1, x -> x.waits(4));
        stays("back beyond the walkers", 0, x -> one(x.back(5)));
        stays("back, not out yet", 0, x -> one(x.back(1)));
        stays("back, a drunk", 0, x -> one(x.back(2)));
        stays("back, no way", 0, x -> one(x.back(3)));
        stays("back, home", 0, x -> one(x.back(4)));
        stays("watch beyond the lanes", 0, x -> one(x.watch(2, 0, true)));
        stays("watch minute 31", 0, x -> one(x.watch(0, 31, true)));
        stays("watch minute -1", 0, x -> one(x.watch(0, -1, true)));
        stays("mark(1, true), nothing is on it", 0, x -> one(x.mark(1, true)));
        stays("mark(3, true), nothing is on it", 0, x -> one(x.mark(3, true)));
        stays("mark(4, false)", 0, x -> one(x.mark(4, false)));
        stays("mark(4, true)", 0, x -> one(x.mark(4, true)));
    }

    /** What is only asked changes nothing. */
    private static void asking() {
        stays("judged(2)", 2, x -> x.judged(2));
        stays("judged(0)", 1, x -> x.judged(0));
        stays("judged(3)", -2, x -> x.judged(3));
        stays("darks(0)", 0, x -> x.darks(0));
        stays("home(2)", 3, x -> x.home(2));
        stays("glow()", 0, x -> x.glow());
        stays("burns(0, 99)", 0, x -> x.burns(0, 99));
        stays("delay(-1)", 0, x -> x.delay(-1));
        stays("delay(5)", -2, x -> x.delay(5));
        stays("boys()", 0, x -> x.boys());
        stays("alarm()", 0, x -> x.alarm());
        stays("blind()", 0, x -> x.blind());
        stays("meet(0, 1)", -1, x -> x.meet(0, 1));
        stays("thief()", 0, x -> x.thief());
        stays("sets(0)", 8, x -> x.sets(0));
        stays("look(9)", -1, x -> x.look(9));
        stays("oil()", 6, x -> x.oil());
        stays("share(0)", 1, x -> x.share(0));
        stays("longer(9)", 0, x -> x.longer(9));
        stays("rests(1, 1, 1, 0)", 0, x -> x.rests(1, 1, 1, 0));
        stays("nights(1, 20, 1)", 3, x -> x.nights(1, 20, 1));
        stays("nights(1, 21, 1)", -1, x -> x.nights(1, 21, 1));
        stays("count(12)", -1, x -> x.count(12));
        stays("way(0, 2)", 2, x -> x.way(0, 2));
        stays("next(0)", 1, x -> x.next(0));
    }

    /** A TOWN or an EVENING with a FAULT: all stays, but for the TAPE. */
    private static void faultsLeaveAll() {
        String good = "place q;place r;lane q r burns 9;walker t lamp from q to r at 9;boy 1;burns 30;";
        for (String text : new String[] {good + "?", good + "place q;", good + "boy 1;", good + "boy", "?", "boy 100;"}) {
            stays("town() of " + text, 1, x -> one(Check.town(x, text) > 0));
            stays("evening() of " + text, 1, x -> one(Check.evening(x, text) > 0));
        }
        String lines = "minute;wait p;send a b;back d;";
        for (String text : new String[] {lines + "?", lines + "wait q;", lines + "send a a;", "minute;".repeat(41)}) {
            stays("evening() of " + text, 1, x -> one(Check.evening(x, text) > 0));
            stays("town() of " + text, 1, x -> one(Check.town(x, text) > 0));
        }
        NextLight y = rich();
        Check.town(y, good + "?");
        Check.due("the law stays", y.send(0, 1), 2);
        Check.due("and what a boy costs", y.count(6), 14);
        Check.due("and the names", Check.evening(y, "send b c;wait p;"), 0);
    }

    private static void fullTown() {
        NextLight x = Check.in(FULL);
        Check.due("the last lane's places", x.lane(7, 0) * 10 + x.lane(7, 1), 14);
        Check.due("the last lane", x.lane(7, 2), 4);
        Check.due("the last walker", x.walker(5, 0) * 1000 + x.walker(5, 1) * 100 + x.walker(5, 2) * 10, 500);
        Check.due("his minute", x.walker(5, 3), 30);
        for (int i = 0; i < 4; i++) {
            Check.due("lane(8, " + i + ")", x.lane(8, i), -1);
            Check.due("lane(-1, " + i + ")", x.lane(-1, i), -1);
            Check.due("a lane has so much", x.lane(0, i) >= 0, true);
        }
        for (int i = 0; i < 6; i++) {
            Check.due("walker(6, " + i + ")", x.walker(6, i), -1);
            Check.due("walker(-1, " + i + ")", x.walker(-1, i), -1);
            Check.due("a walker has so much", x.walker(0, i) >= 0, true);
        }
        for (int i = 0; i < 8; i++) {
            Check.due("lane(" + i + ", 4)", x.lane(i, 4), -1);
            Check.due("lane(" + i + ", -1)", x.lane(i, -1), -1);
            Check.due("walker(" + i + ", 6)", x.walker(i, 6), -1);
            Check.due("walker(" + i + ", -1)", x.walker(i, -1), -1);
        }
        Check.due("the last lane lit", x.send(4, 1) * 1000 + x.count(5), 4128);
        Check.due("the last walker waits", x.waits(5), 31);
        for (int i = 0; i < 31; i++) {
            x.minute();
        }
        Check.due("he is the only one", x.count(4) * 10 + x.next(5), 315);
        Check.due("he walks in the dark", x.minute(), 1);
        Check.due("all are home", x.count(4), 63);
    }

    /** None to itself; one to whom there is no WAY is HOME. */
    private static void waysToItselfAndNone() {
        NextLight x = Check.in(ROW);
        for (int from = 0; from < 6; from++) {
            for (int to = 0; to < 6; to++) {
                Check.due("way(" + from + ", " + to + ")", x.way(from, to), Math.abs(from - to));
            }
            for (int far : FAR) {
                Check.due("way(" + from + ", " + far + ")", x.way(from, far), -1);
                Check.due("way(" + far + ", " + from + ")", x.way(far, from), -1);
            }
        }
        NextLight y = Check.in("place a;place b;place c;place d;lane a b burns 1;lane c d burns 1;"
            + "walker v plain from a to c at 0;walker w plain from a to a at 0;walker u plain from a to b at 0;"
            + "walker e drunk from b to d at 0;");
        Check.due("way(0, 1)", y.way(0, 1), 1);
        Check.due("way(2, 3)", y.way(2, 3), 1);
        Check.due("way(0, 2)", y.way(0, 2), -1);
        Check.due("way(3, 1)", y.way(3, 1), -1);
        Check.due("way(3, 3)", y.way(3, 3), 0);
        Check.due("way(4, 4)", y.way(4, 4), -1);
        Check.due("all but u are home", y.count(4), 11);
        for (int walker : new int[] {0, 1, 3}) {
            Check.due("home", y.walker(walker, 4), 1);
            Check.due("not out", y.walker(walker, 5), 0);
            Check.due("no lane", y.next(walker), -1);
            Check.due("no wait", y.waits(walker), -1);
            Check.due("no back", y.back(walker), false);
            Check.due("home behind 0", y.home(walker), 0);
            Check.due("no dark", y.darks(walker), 0);
            Check.due("no delay", y.delay(walker), 0);
            Check.due("no share", y.share(walker), 0);
        }
        y.minute();
        Check.due("they stay", y.walker(0, 1) * 100 + y.walker(1, 1) * 10 + y.walker(3, 1), 1);
        Check.due("though v goes to c", y.walker(0, 2), 2);
    }

    /** Of equal WAYS the one whose PLACES, one behind another, are the first: as they are told, not by LANES. */
    private static void equalWays() {
        String places = "place a;place b;place c;place d;place e;place f;";
        NextLight x = Check.in(places + "lane a e burns 1;lane e f burns 1;lane a b burns 1;lane b f burns 1;"
            + "walker w plain from a to f at 0;walker v plain from f to a at 0;");
        Check.due("by b", x.next(0), 2);
        Check.due("by b the other way", x.next(1), 3);
        NextLight y = Check.in(places + "lane a c burns 1;lane a b burns 1;lane b e burns 1;lane c d burns 1;"
            + "lane e f burns 1;lane d f burns 1;walker w plain from a to f at 0;walker v plain from f to a at 0;");
        Check.due("by b, e, though d is before e", y.next(0), 1);
        Check.due("by d, c, though b is before c", y.next(1), 5);
        NextLight z = Check.in(places + "lane a b burns 1;lane b c burns 1;lane c f burns 1;lane a e burns 1;"
            + "lane e f burns 1;walker w plain from a to f at 0;");
        Check.due("the fewest before the first", z.way(0, 5) * 10 + z.next(0), 23);
        NextLight t = Check.in("place a;place z;place b;place c;lane a b burns 1;lane b c burns 1;lane a z burns 1;"
            + "lane z c burns 1;walker w plain from a to c at 0;");
        Check.due("by numbers, not by letters", t.next(0), 2);
    }

    private static void outFromHisMinute() {
        for (int at : new int[] {0, 1, 29, 30}) {
            NextLight x = Check.in("place a;place b;lane a b burns 1;walker w plain from a to b at " + at + ";");
            for (int minute = 0; minute < at; minute++) {
                Check.due("not out in " + minute, x.walker(0, 5) * 10 + x.next(0), -1);
                Check.due("nobody walks", x.minute(), 0);
            }
            Check.due("out in " + at, x.walker(0, 5) * 10 + x.next(0), 10);
            Check.due("not home", x.walker(0, 4), 0);
            Check.due("in the dark", x.minute(), 1);
            Check.due("home", x.walker(0, 4), 1);
            Check.due("not out", x.walker(0, 5) * 10 + x.next(0), -1);
            Check.due("his minute stays", x.walker(0, 3), at);
        }
    }

    /** All at once, by what burns then: the last minute of light is light. */
    private static void minuteByWhatBurnsThen() {
        for (int told = 0; told <= 4; told++) {
            for (int later = 0; later <= 5; later++) {
                NextLight x = Check.in("place a;place b;lane a b burns " + told + ";walker v plain from a to b at 0;"
                    + "walker w plain from a to b at " + later + ";");
                for (int i = 0; i < later; i++) {
                    Check.due("the first one, then nobody", x.minute(), i == 0 ? 1 : 0);
                }
                int dark = later == 0 ? 2 : later <= told ? 0 : 1;
                Check.due("told " + told + ", later by " + later, x.minute(), dark);
                Check.due("how often", x.count(7), later == 0 ? 2 : 1 + dark);
            }
        }
        for (String kind : new String[] {"plain", "lamp", "blind", "drunk"}) {
            NextLight x = Check.in("place a;place b;lane a b burns 1;walker v " + kind + " from a to b at 0;");
            Check.due("the dark for a " + kind, x.minute(), kind.equals("lamp") || kind.equals("blind") ? 0 : 1);
            Check.due("lit behind a " + kind, x.lane(0, 3), 1);
        }
    }

    private static void drunkThreeTimes() {
        for (int lanes = 1; lanes <= 5; lanes++) {
            NextLight x = Check.in(ROW + "walker dd drunk from a to " + (char) ('a' + lanes) + " at 0;");
            for (int i = 0; i < 3 * lanes; i++) {
                Check.due("home behind", x.home(0), 3 * lanes - i);
                Check.due("not home", x.walker(0, 4), 0);
                Check.due("his lane", x.next(0), i / 3);
                Check.due("where he is", x.walker(0, 1), i / 3 + (i % 3 == 1 ? 1 : 0));
                x.minute();
            }
            Check.due("home", x.walker(0, 4) * 10 + x.walker(0, 1), 10 + lanes);
        }
    }

    /** The minute behind that from which he would be, or behind this one, if that is later. */
    private static void waitingBehindTheLater() {
        for (int at = 0; at <= 4; at++) {
            for (int now = 0; now <= at + 1; now++) {
                NextLight x = Check.in(ROW + "walker w plain from a to f at " + at + ";");
                for (int i = 0; i < now; i++) {
                    x.minute();
                }
                Check.due("at " + at + ", now " + now, x.waits(0), Math.max(at, now) + 1);
                Check.due("again", x.waits(0), Math.max(at, now) + 2);
                Check.due("not out", x.walker(0, 5), 0);
                for (int i = now; i < Math.max(at, now) + 2; i++) {
                    Check.due("not yet", x.walker(0, 5), 0);
                    x.minute();
                }
                Check.due("out", x.walker(0, 5), 1);
            }
        }
        NextLight y = Check.in(ROW + "walker w plain from a to b at 30;");
        Check.due("beyond 30", y.waits(0), 31);
        for (int i = 0; i < 400; i++) {
            Check.due("on and on", y.waits(0), 32 + i);
        }
        Check.due("16 of them can be undone", y.count(10), 16);
    }

    private static void turningBack() {
        NextLight x = Check.in(ROW + "walker w plain from a to f at 1;");
        Check.due("not out", x.back(0), false);
        x.minute();
        Check.due("out, where he came from", x.back(0), true);
        Check.due("home at once", x.walker(0, 4) * 10 + x.walker(0, 2), 10);
        Check.due("no more", x.back(0), false);
        x.undo();
        x.waits(0);
        Check.due("one who waits is not out", x.back(0), false);
        x.minute();
        x.minute();
        x.minute();
        Check.due("at c", x.walker(0, 1), 2);
        Check.due("back", x.back(0), true);
        Check.due("from now on", x.next(0) * 10 + x.home(0), 12);
        Check.due("and again", x.back(0), true);
        Check.due("still to a", x.walker(0, 2), 0);
        x.minute();
        x.minute();
        Check.due("home at a", x.walker(0, 4) * 10 + x.walker(0, 1), 10);
        NextLight kinds = Check.in(ROW + "walker p plain from a to f at 0;walker l lamp from a to f at 0;"
            + "walker q blind from a to f at 0;walker dd drunk from a to f at 0;");
        for (int i = 0; i < 4; i++) {
            Check.due("back of kind " + i, kinds.back(i), i < 3);
        }
    }

    /** The last 16, one by one, with what each of the four has done. */
    private static void sixteenUndone() {
        String town = ROW + "walker p plain from a to f at 0;walker dd drunk from a to f at 0;boy 2;burns 30;";
        for (int many = 15; many <= 18; many++) {
            NextLight x = Check.in(town);
            for (int i = 0; i < many; i++) {
                step(x, i);
                Check.due("can be undone", x.count(10), Math.min(i + 1, 16));
            }
            for (int i = 0; i < Math.min(many, 16); i++) {
                Check.due("undo " + i + " of " + many, x.undo(), true);
                NextLight fresh = Check.in(town);
                for (int j = 0; j < many - 1 - i; j++) {
                    step(fresh, j);
                }
                Check.due("the minute", x.count(3), fresh.count(3));
                Check.due("paid", x.count(6), fresh.count(6));
                Check.due("the dark", x.count(7), fresh.count(7));
                Check.due("lit", x.count(5), fresh.count(5));
                for (int what = 1; what <= 5; what++) {
                    Check.due("p " + what, x.walker(0, what), fresh.walker(0, what));
                    Check.due("d " + what, x.walker(1, what), fresh.walker(1, what));
                }
            }
            Check.due("no more of " + many, x.undo(), false);
            Check.due("none", x.count(10), 0);
        }
    }

    private static void step(NextLight x, int i) {
        if (i % 4 == 0) {
            x.send(i / 4, i / 4 + 1);
        } else if (i % 4 == 1) {
            x.minute();
        } else if (i % 4 == 2) {
            x.waits(1);
        } else if (!x.back(0)) {
            x.minute();
        }
    }

    private static void forgettingWhatCanBeUndone() {
        NextLight x = rich();
        Check.due("two", x.count(10), 2);
        Check.due("an evening leaves them", Check.evening(x, "minute;") * 10 + x.count(10), 2);
        Check.due("a mark laid, too", x.mark(2, false) ? x.count(10) : -1, 2);
        Check.due("watched, too", x.watch(0, 30, true) ? x.count(10) : -1, 2);
        Check.due("a mark that is not there, too", x.mark(3, true) ? -1 : x.count(10), 2);
        Check.due("one less", x.undo() ? x.count(10) : -1, 1);
        Check.due("what is watched stays", x.count(9), 2);
        Check.due("so does the evening", x.count(8), 1);
        Check.due("gone back to a mark", x.mark(2, true) ? x.count(10) : -1, 0);
        Check.due("nothing can be undone", x.undo(), false);
        x.minute();
        Check.due("but what comes then", x.count(10), 1);
        Check.town(x, TOWN);
        Check.due("none in a new town", x.count(10) * 10 + one(x.undo()), 0);
    }

    private static void judgedLines() {
        NextLight x = Check.in(TOWN);
        Check.due("none told", x.judged(0) * 100 + x.judged(1) * 10 + x.judged(2), -110);
        for (int line : new int[] {0, 1, 38, 39}) {
            String before = "minute;".repeat(line);
            String behind = "minute;".repeat(39 - line);
            for (String wrong : new String[] {"send a c;", "send a off;", "wait h;", "back h;", "wait s;", "back d;"}) {
                Check.due("evening", Check.evening(x, before + wrong + behind), 0);
                Check.due("the first line that can't be: " + wrong, x.judged(0), line);
            }
        }
        NextLight y = Check.in("place a;place b;lane a b burns 0;walker w plain from a to b at 30;");
        for (int many : new int[] {29, 30, 31, 40}) {
            Check.evening(y, "minute;".repeat(many));
            Check.due("the first line in the dark of " + many, y.judged(1), many > 30 ? 30 : -1);
            Check.due("how often", y.judged(2), many > 30 ? 1 : 0);
            Check.due("a minute always can", y.judged(0), -1);
        }
        Check.evening(y, "back w;wait w;back w;send a b;minute;");
        Check.due("the first of several that can't be", y.judged(0), 0);
        Check.evening(y, "minute;".repeat(30) + "wait w;".repeat(8) + "back w;");
        Check.due("he waits, so he is not out", y.judged(0), 38);
        Check.evening(y, "minute;".repeat(30) + "back w;back w;wait w;minute;");
        Check.due("he is home by going back", y.judged(0) * 10 + y.judged(2), 310);
        for (int far : FAR) {
            Check.due("judged(" + far + ")", y.judged(far), -2);
        }
        Check.due("judged(3)", y.judged(3), -2);
        NextLight z = Check.in("place a;place b;lane a b burns 0;walker v drunk from a to b at 0;"
            + "walker w drunk from a to b at 0;walker u plain from a to b at 0;");
        Check.evening(z, "minute;minute;minute;minute;");
        Check.due("together", z.judged(1) * 10 + z.judged(2), 7);
        Check.evening(z, "");
        Check.due("an empty one", z.judged(0) * 100 + z.judged(1) * 10 + z.judged(2), -110);
    }

    private static void fourMarks() {
        NextLight x = Check.in(TOWN);
        for (int i = 0; i < 4; i++) {
            Check.due("nothing is on " + i, x.mark(i, true), false);
            Check.due("laid " + i, x.mark(i, false), true);
            Check.due("laying forgets nothing", x.count(10), i);
            x.minute();
        }
        for (int i = 3; i >= 0; i--) {
            Check.due("gone back to " + i, x.mark(i, true), true);
            Check.due("minute " + i, x.count(3), i);
        }
        x.minute();
        x.minute();
        x.send(0, 1);
        Check.due("laid once more", x.mark(0, false), true);
        Check.due("three can be undone", x.count(10), 3);
        Check.due("gone back to 1", x.mark(1, true) ? x.count(3) * 10 + x.count(6) : -1, 10);
        Check.due("and to 0", x.mark(0, true) ? x.count(3) * 10 + x.count(6) : -1, 27);
        Check.due("which is still there", x.mark(0, true), true);
        Check.due("a fault leaves them", Check.town(x, "?"), 1);
        for (int i = 0; i < 4; i++) {
            Check.due("still on " + i, x.mark(i, true), true);
        }
        Check.due("a town does not", Check.town(x, TOWN), 0);
        for (int i = 0; i < 4; i++) {
            Check.due("nothing is on " + i, x.mark(i, true), false);
        }
    }

    private static void counts() {
        NextLight x = rich();
        for (int far : new int[] {Integer.MIN_VALUE, -2, -1, 12, 13, Integer.MAX_VALUE}) {
            Check.due("count(" + far + ")", x.count(far), -1);
        }
        int[] due = {4, 2, 5, 1, 24, 3, 7, 1, 3, 1, 2, 0};
        for (int what = 0; what < due.length; what++) {
            Check.due("count(" + what + ")", x.count(what), due[what]);
        }
    }
}
