/** Promises 5 to 14, 33 and 34: what is there, what is done by hand, undone, judged, marked, counted. */
public final class HandTest {
    private static final String STREET = "place a;place b;place c;lane a b burns 2;lane b c burns 1;"
        + "walker p plain from a to c at 0;walker l lamp from a to c at 1;"
        + "walker q blind from c to a at 0;walker d drunk from b to c at 2;boy 4;";
    private static final String SQUARE = "place a;place b;place c;place d;place e;"
        + "lane c a burns 1;lane c d burns 2;lane b a burns 3;lane b d burns 4;"
        + "walker w plain from a to d at 0;walker v plain from d to a at 0;walker u plain from a to e at 0;";

    public static void main(String[] args) {
        lanes();
        walkers();
        ways();
        minutes();
        drunk();
        light();
        boys();
        waiting();
        turning();
        undoing();
        judging();
        marking();
        markedLines();
        beginning();
        counting();
        Check.finish();
    }

    private static void lanes() {
        NextLight x = Check.in(SQUARE);
        Check.due("lane(0, 0)", x.lane(0, 0), 2);
        Check.due("lane(0, 1)", x.lane(0, 1), 0);
        Check.due("lane(3, 2)", x.lane(3, 2), 4);
        Check.due("lane(3, 3)", x.lane(3, 3), 0);
        x.send(3, 1);
        Check.due("lane(3, 3) lit", x.lane(3, 3), 4);
        x.minute();
        x.minute();
        Check.due("lane(0, 3)", x.lane(0, 3), 0);
        for (int lane : new int[] {-1, 4, 8, Integer.MIN_VALUE, Integer.MAX_VALUE}) {
            Check.due("lane(" + lane + ", 0)", x.lane(lane, 0), -1);
            Check.due("lane(" + lane + ", 3)", x.lane(lane, 3), -1);
        }
        for (int what : new int[] {-1, 4, Integer.MIN_VALUE, Integer.MAX_VALUE}) {
            Check.due("lane(0, " + what + ")", x.lane(0, what), -1);
        }
    }

    private static void walkers() {
        NextLight x = Check.in(STREET);
        for (int i = 0; i < 4; i++) {
            Check.due("kind " + i, x.walker(i, 0), i);
            Check.due("home " + i, x.walker(i, 4), 0);
        }
        Check.due("where", x.walker(2, 1), 2);
        Check.due("where to", x.walker(2, 2), 0);
        Check.due("since", x.walker(3, 3), 2);
        Check.due("out", x.walker(0, 5), 1);
        Check.due("not out", x.walker(1, 5), 0);
        x.minute();
        Check.due("where then", x.walker(0, 1), 1);
        Check.due("out then", x.walker(1, 5), 1);
        x.minute();
        Check.due("home then", x.walker(0, 4), 1);
        Check.due("not out at home", x.walker(0, 5), 0);
        Check.due("since stays", x.walker(0, 3), 0);
        for (int walker : new int[] {-1, 4, 6, Integer.MIN_VALUE, Integer.MAX_VALUE}) {
            Check.due("walker(" + walker + ", 1)", x.walker(walker, 1), -1);
            Check.due("next(" + walker + ")", x.next(walker), -1);
            Check.due("waits(" + walker + ")", x.waits(walker), -1);
            Check.due("back(" + walker + ")", x.back(walker), false);
        }
        for (int what : new int[] {-1, 6, Integer.MIN_VALUE, Integer.MAX_VALUE}) {
            Check.due("walker(0, " + what + ")", x.walker(0, what), -1);
        }
        NextLight y = Check.in(SQUARE);
        Check.due("without a way he is home", y.walker(2, 4), 1);
        Check.due("and not out", y.walker(2, 5), 0);
        Check.due("but goes to e", y.walker(2, 2), 4);
        Check.due("and waits never", y.waits(2), -1);
    }

    private static void ways() {
        NextLight x = Check.in(SQUARE);
        Check.due("way(0, 3)", x.way(0, 3), 2);
        Check.due("way(1, 2)", x.way(1, 2), 2);
        Check.due("way(0, 1)", x.way(0, 1), 1);
        Check.due("way(2, 2)", x.way(2, 2), 0);
        Check.due("way(4, 4)", x.way(4, 4), 0);
        Check.due("way(0, 4)", x.way(0, 4), -1);
        Check.due("way(4, 0)", x.way(4, 0), -1);
        for (int other : new int[] {-1, 5, 6, Integer.MIN_VALUE, Integer.MAX_VALUE}) {
            Check.due("way(0, " + other + ")", x.way(0, other), -1);
            Check.due("way(" + other + ", 0)", x.way(other, 0), -1);
            Check.due("way(" + other + ", " + other + ")", x.way(other, other), -1);
        }
        Check.due("by b, not c", x.next(0), 2);
        Check.due("by b on the other way", x.next(1), 3);
        Check.due("no way", x.next(2), -1);
        x.minute();
        Check.due("then on", x.next(0), 3);
        Check.due("then on, the other way", x.next(1), 2);
        x.minute();
        Check.due("home", x.next(0), -1);
        NextLight y = Check.in("place a;place b;place c;place d;place e;place f;lane a b burns 1;lane b c burns 1;"
            + "lane c f burns 1;lane a d burns 1;lane d f burns 1;lane d e burns 1;walker w plain from a to f at 0;");
        Check.due("fewest lanes first", y.way(0, 5), 2);
        Check.due("by d", y.next(0), 3);
        NextLight z = Check.in("place a;place b;place c;place d;place e;place f;lane a f burns 1;lane f e burns 1;"
            + "lane e b burns 1;lane a c burns 1;lane c d burns 1;lane d b burns 1;lane c e burns 1;"
            + "walker w plain from a to b at 0;");
        Check.due("three", z.way(0, 1), 3);
        Check.due("by c", z.next(0), 3);
        z.minute();
        Check.due("by d, not e", z.next(0), 4);
    }

    private static void minutes() {
        NextLight x = Check.in(STREET);
        Check.due("next of one not out yet", x.next(1), -1);
        Check.due("p is in the dark, the blind one is not", x.minute(), 1);
        Check.due("lit", x.lane(0, 3) * 10 + x.lane(1, 3), 21);
        Check.due("all go by what burns", x.minute(), 0);
        Check.due("lit again", x.lane(0, 3) * 10 + x.lane(1, 3), 21);
        Check.due("home", x.count(4), 5);
        Check.due("third", x.minute(), 0);
        Check.due("less", x.lane(0, 3) * 10 + x.lane(1, 3), 11);
        Check.due("fourth", x.minute(), 0);
        Check.due("gone out", x.lane(0, 3) * 10 + x.lane(1, 3), 1);
        Check.due("fifth", x.minute(), 0);
        Check.due("all home", x.count(4), 15);
        Check.due("nobody", x.minute(), 0);
        Check.due("dark", x.count(5), 0);
        Check.due("the minute", x.count(3), 6);
        Check.due("how often", x.count(7), 1);
        NextLight y = Check.in("place a;place b;lane a b burns 9;walker v plain from a to b at 0;"
            + "walker w plain from b to a at 0;walker x lamp from a to b at 0;walker y drunk from a to b at 0;");
        Check.due("the first ones all are in the dark, but for the lamp", y.minute(), 3);
        Check.due("no longer", y.minute(), 0);
    }

    private static void drunk() {
        NextLight x = Check.in("place a;place b;place c;lane a b burns 0;lane b c burns 1;"
            + "walker d drunk from a to c at 1;");
        Check.due("not out", x.minute(), 0);
        int[] places = {1, 0, 1, 2, 1, 2};
        int[] lanes = {0, 0, 0, 1, 1, 1};
        int[] dark = {1, 1, 1, 1, 0, 0};
        for (int i = 0; i < 6; i++) {
            Check.due("not home " + i, x.walker(0, 4), 0);
            Check.due("out " + i, x.walker(0, 5), 1);
            Check.due("next " + i, x.next(0), lanes[i]);
            Check.due("dark " + i, x.minute(), dark[i]);
            Check.due("place " + i, x.walker(0, 1), places[i]);
            Check.due("no back", x.back(0), false);
        }
        Check.due("home", x.walker(0, 4), 1);
        NextLight y = Check.in("place a;place b;lane a b burns 0;walker d drunk from a to b at 0;");
        y.minute();
        Check.due("he is there", y.walker(0, 1), 1);
        Check.due("but not home", y.walker(0, 4), 0);
        Check.due("he may wait there", y.waits(0), 2);
        Check.due("and is not out", y.walker(0, 5) + y.minute(), 0);
        Check.due("still there", y.walker(0, 1), 1);
        Check.due("goes back", y.minute() + 10 * y.walker(0, 1), 1);
        Check.due("goes there", y.minute() + 10 * y.walker(0, 1), 11);
        Check.due("home now", y.walker(0, 4), 1);
    }

    private static void light() {
        String pair = "place a;place b;lane a b burns 7;";
        String two = "walker v plain from a to b at 0;walker w plain from b to a at 0;";
        NextLight feet = Check.in(pair + two + "burns feet*10;");
        feet.minute();
        Check.due("two feet", feet.lane(0, 3), 20);
        Check.due("a boy is not more", feet.send(0, 1), 20);
        NextLight left = Check.in(pair + "walker v drunk from a to b at 0;burns left+1;");
        left.minute();
        Check.due("left 0", left.lane(0, 3), 1);
        left.minute();
        Check.due("left is less by then", left.lane(0, 3), 1);
        Check.due("a boy by left 1", left.send(0, 1), 2);
        NextLight late = Check.in(pair + "walker v drunk from a to b at 0;burns late;");
        late.minute();
        Check.due("late 0", late.lane(0, 3), 0);
        late.minute();
        Check.due("late 1", late.lane(0, 3), 1);
        Check.due("a boy late 2", late.send(0, 1), 2);
        NextLight more = Check.in(pair + "walker v drunk from a to b at 0;burns 5-late*2;");
        more.minute();
        Check.due("5", more.lane(0, 3), 5);
        more.minute();
        Check.due("4, not 3", more.lane(0, 3), 4);
        NextLight most = Check.in(pair + two + "burns 50;");
        most.minute();
        Check.due("30 at most", most.lane(0, 3), 30);
        NextLight least = Check.in(pair + two + "burns 0-5;");
        least.minute();
        Check.due("0 at least", least.lane(0, 3), 0);
    }

    private static void boys() {
        NextLight x = Check.in(STREET);
        Check.due("send(1, 0)", x.send(1, 0), 2);
        Check.due("paid", x.count(6), 4);
        Check.due("send(0, 1)", x.send(0, 1), 2);
        Check.due("paid again", x.count(6), 8);
        Check.due("no lane", x.send(0, 2), -1);
        Check.due("itself", x.send(1, 1), -1);
        for (int other : new int[] {-1, 3, 6, Integer.MIN_VALUE, Integer.MAX_VALUE}) {
            Check.due("send(0, " + other + ")", x.send(0, other), -1);
            Check.due("send(" + other + ", 0)", x.send(other, 0), -1);
        }
        Check.due("not paid for these", x.count(6), 8);
        Check.due("nor undone", x.count(10), 2);
        Check.due("nobody in the dark", x.minute(), 0);
    }

    private static void waiting() {
        NextLight x = Check.in(STREET);
        Check.due("waits(3)", x.waits(3), 3);
        Check.due("waits(3) again", x.waits(3), 4);
        Check.due("waits(0)", x.waits(0), 1);
        Check.due("not out", x.walker(0, 5), 0);
        Check.due("nobody but q", x.minute(), 0);
        Check.due("out", x.walker(0, 5), 1);
        x.minute();
        Check.due("on his way he waits", x.waits(0), 3);
        Check.due("where he is", x.walker(0, 1), 1);
        x.minute();
        Check.due("he stays", x.walker(0, 1), 1);
        x.minute();
        Check.due("home", x.waits(0), -1);
        Check.due("can be undone", x.count(10), 8);
        for (int i = 0; i < 200; i++) {
            x.waits(3);
        }
        Check.due("any number of waits", x.waits(3), 205);
    }

    private static void turning() {
        NextLight x = Check.in(STREET);
        Check.due("not out yet", x.back(1), false);
        Check.due("a drunk", x.back(3), false);
        x.minute();
        Check.due("back(0)", x.back(0), true);
        Check.due("goes to a", x.walker(0, 2), 0);
        Check.due("along lane 0", x.next(0), 0);
        Check.due("back(0) again", x.back(0), true);
        Check.due("still goes to a", x.walker(0, 2), 0);
        Check.due("back(1) where he comes from", x.back(1), true);
        Check.due("is home", x.walker(1, 4), 1);
        Check.due("so no more", x.back(1), false);
        x.minute();
        Check.due("home at a", x.walker(0, 1) * 10 + x.walker(0, 4), 1);
        Check.due("at home", x.back(0), false);
        Check.due("three and two can be undone", x.count(10), 5);
    }

    private static void undoing() {
        NextLight x = Check.in(STREET);
        x.minute();
        x.send(0, 1);
        x.waits(1);
        x.back(0);
        Check.due("count(10)", x.count(10), 4);
        Check.due("undo back", x.undo(), true);
        Check.due("to c", x.walker(0, 2), 2);
        Check.due("undo waits", x.undo(), true);
        Check.due("since 1", x.walker(1, 3), 1);
        Check.due("undo send", x.undo(), true);
        Check.due("not paid", x.count(6), 0);
        Check.due("undo minute", x.undo(), true);
        Check.due("dark", x.count(5), 0);
        Check.due("nobody has walked in it", x.count(7), 0);
        Check.due("minute 0", x.count(3), 0);
        Check.due("at a", x.walker(0, 1), 0);
        Check.due("nothing can be", x.undo(), false);
        for (int i = 0; i < 20; i++) {
            x.minute();
            Check.due("16 at most", x.count(10), Math.min(i + 1, 16));
        }
        for (int i = 0; i < 16; i++) {
            Check.due("undo " + i, x.undo(), true);
        }
        Check.due("no 17th", x.undo(), false);
        Check.due("minute 4", x.count(3), 4);
        Check.due("drunk on his way", x.walker(3, 1), 1);
        x.minute();
        Check.due("home then", x.count(4), 15);
        Check.due("once more", x.undo(), true);
        Check.due("and no more", x.undo(), false);
        x.watch(0, 1, true);
        Check.evening(x, "minute;");
        x.minute();
        x.undo();
        Check.due("what is watched stays", x.count(9), 1);
        Check.due("the evening stays", x.count(8), 1);
        NextLight drunk = Check.in("place a;place b;lane a b burns 0;walker d drunk from a to b at 0;");
        drunk.minute();
        drunk.minute();
        drunk.undo();
        Check.due("undone to between", drunk.walker(0, 1), 1);
        drunk.minute();
        drunk.minute();
        Check.due("home", drunk.walker(0, 4), 1);
    }

    private static void judging() {
        NextLight x = Check.in(STREET);
        Check.due("none told", x.judged(0), -1);
        Check.evening(x, "send a c;wait p;back p;minute;minute;back d;minute;");
        x.minute();
        Check.due("send a c can't be", x.judged(0), 0);
        Check.due("p in the dark", x.judged(1), 4);
        Check.due("p twice, d once", x.judged(2), 3);
        Check.evening(x, "send a b;minute;back p;wait p;minute;minute;wait p;minute;minute;minute;");
        Check.due("wait p can't be at last", x.judged(0), 6);
        Check.due("d in the dark", x.judged(1), 5);
        Check.due("once", x.judged(2), 1);
        Check.evening(x, "minute;minute;");
        Check.due("all can be", x.judged(0), -1);
        Check.due("the first", x.judged(1), 0);
        Check.due("once", x.judged(2), 1);
        Check.evening(x, "wait p;minute;wait p;minute;wait p;minute;back p;back l;back d;minute;");
        Check.due("back p of one who comes from there can be; l is home by then", x.judged(0), 7);
        Check.due("what is judged changes nothing", x.count(3) * 10 + x.count(10), 11);
        for (int what : new int[] {-1, 3, Integer.MIN_VALUE, Integer.MAX_VALUE}) {
            Check.due("judged(" + what + ")", x.judged(what), -2);
        }
        NextLight y = Check.in("place a;place b;lane a b burns 0;walker v drunk from a to b at 1;"
            + "walker w plain from b to a at 2;");
        Check.evening(y, "minute;minute;wait w;minute;minute;back v;minute;");
        Check.due("the first line that can't be", y.judged(0), 5);
        Check.due("the first line in the dark", y.judged(1), 1);
        Check.due("how often", y.judged(2), 4);
        y.minute();
        y.send(0, 1);
        Check.due("from the beginning", y.judged(2), 4);
    }

    private static void marking() {
        NextLight x = Check.in(STREET);
        for (int mark : new int[] {-1, 4, Integer.MIN_VALUE, Integer.MAX_VALUE}) {
            Check.due("mark(" + mark + ", false)", x.mark(mark, false), false);
            Check.due("mark(" + mark + ", true)", x.mark(mark, true), false);
        }
        x.minute();
        Check.due("laid", x.mark(0, false), true);
        Check.due("undo stays", x.count(10), 1);
        Check.due("nothing on 1", x.mark(1, true), false);
        Check.due("undo stays still", x.count(10), 1);
        Check.evening(x, "minute;minute;");
        x.watch(1, 2, true);
        x.send(1, 2);
        x.waits(1);
        x.back(0);
        Check.due("laid 3", x.mark(3, false), true);
        x.minute();
        Check.tell(x, "boy");
        Check.due("gone back to 0", x.mark(0, true), true);
        Check.due("minute 1", x.count(3), 1);
        Check.due("no evening", x.count(8), 0);
        Check.due("nothing watched", x.count(9), 0);
        Check.due("nothing paid", x.count(6), 0);
        Check.due("nothing to undo", x.undo(), false);
        Check.due("the tape stays", x.count(11), 3);
        Check.due("since", x.walker(1, 3), 1);
        Check.due("goes to c", x.walker(0, 2), 2);
        Check.due("gone on to 3", x.mark(3, true), true);
        Check.due("evening", x.count(8), 2);
        Check.due("judged", x.judged(2), 1);
        Check.due("watched", x.count(9), 1);
        Check.due("paid", x.count(6), 4);
        Check.due("since 2", x.walker(1, 3), 2);
        Check.due("goes to a", x.walker(0, 2), 0);
        Check.due("how often", x.count(7), 1);
        x.minute();
        Check.due("one can be undone", x.count(10), 1);
        Check.due("laid over", x.mark(0, false), true);
        x.minute();
        Check.due("back", x.mark(0, true), true);
        Check.due("minute 2", x.count(3), 2);
        Check.due("it is still on it", x.mark(0, true), true);
        Check.evening(x, "minute;");
        Check.due("3 keeps its own", x.mark(3, true), true);
        Check.due("two lines", x.count(8), 2);
    }

    private static void markedLines() {
        NextLight x = Check.in(STREET);
        Check.evening(x, "minute;send a b;wait p;back d;");
        x.watch(0, 1, true);
        x.watch(1, 3, false);
        int sets = x.sets(0);
        x.mark(1, false);
        Check.evening(x, "send b c;wait l;back p;minute;");
        Check.due("another evening", x.judged(0) * 10 + x.judged(1), -11);
        x.mark(2, false);
        x.mark(1, true);
        Check.due("the evening of the mark", x.judged(0) * 10 + x.judged(1), 30);
        x.mark(2, true);
        Check.due("and of the other one", x.judged(0) * 10 + x.judged(1), -11);
        NextLight y = Check.in(STREET);
        y.mark(0, false);
        y.watch(1, 5, true);
        y.watch(0, 2, false);
        y.mark(3, false);
        y.mark(0, true);
        y.watch(0, 1, true);
        y.watch(1, 3, false);
        Check.due("watched anew", y.sets(0), sets);
        y.mark(0, true);
        Check.due("nothing is watched", y.sets(0), 16);
        y.watch(0, 7, false);
        y.mark(3, true);
        Check.due("d alone fits what the mark holds", y.sets(0) * 100 + y.sets(1) * 10 + y.sets(2), 188);
    }

    private static void beginning() {
        String town = "place a;place b;lane a b burns 0;walker d drunk from a to b at 0;walker e plain from b to a at 0;";
        NextLight x = Check.in(town);
        x.minute();
        Check.evening(x, "minute;minute;minute;minute;");
        Check.due("judged from the beginning", x.judged(2), 4);
        Check.due("nights from the beginning", x.nights(3, 2, 0), 8);
        Check.due("the same town again", Check.town(x, town), 0);
        Check.due("where he comes from", x.walker(0, 1), 0);
        Check.due("with three minutes to go", x.home(0), 3);
        for (int i = 0; i < 2; i++) {
            Check.town(x, town + "boy 7;burns 5;");
            Check.due("burns 5", x.send(0, 1) * 10 + x.count(6), 57);
            Check.due("and as if nothing had been told " + i, Check.town(x, town), 0);
            Check.due("burns 0", x.send(0, 1) * 10 + x.count(6), 3);
            Check.due("told once more " + i, Check.town(x, town), 0);
            Check.due("burns 0 again", x.send(0, 1) * 10 + x.count(6), 3);
            Check.due("an empty town " + i, Check.town(x, ""), 0);
        }
    }

    private static void counting() {
        NextLight x = Check.in(STREET);
        Check.due("places", x.count(0), 3);
        Check.due("lanes", x.count(1), 2);
        Check.due("walkers", x.count(2), 4);
        x.minute();
        x.minute();
        x.send(0, 1);
        Check.evening(x, "minute;minute;minute;");
        x.watch(0, 1, true);
        x.watch(0, 2, true);
        Check.tell(x, "hill");
        int[] due = {3, 2, 4, 2, 5, 3, 4, 1, 3, 2, 3, 4};
        for (int what = 0; what < due.length; what++) {
            Check.due("count(" + what + ")", x.count(what), due[what]);
        }
        for (int what : new int[] {-1, 12, Integer.MIN_VALUE, Integer.MAX_VALUE}) {
            Check.due("count(" + what + ")", x.count(what), -1);
        }
    }
}
