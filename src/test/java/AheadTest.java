/** Promises 15 to 24 and 28 to 30: what comes of how it is now. */
public final class AheadTest {
    private static final String STREET = "place a;place b;place c;lane a b burns 2;lane b c burns 1;"
        + "walker p plain from a to c at 0;walker l lamp from a to c at 1;"
        + "walker q blind from c to a at 0;walker d drunk from b to c at 2;boy 4;";
    private static final int[] WRONG = {-1, 4, 6, Integer.MIN_VALUE, Integer.MAX_VALUE};

    public static void main(String[] args) {
        darksAndHome();
        glowAndBurns();
        delays();
        delayTies();
        boys();
        alarmAndBlind();
        meeting();
        thieves();
        oilAndShares();
        longer();
        ninetyNine();
        nobody();
        Check.finish();
    }

    private static void row(String name, NextLight x, int[] due, java.util.function.IntUnaryOperator call) {
        for (int i = 0; i < due.length; i++) {
            Check.due(name + "(" + i + ")", call.applyAsInt(i), due[i]);
        }
    }

    private static void darksAndHome() {
        NextLight x = Check.in(STREET);
        row("darks", x, new int[] {1, 0, 0, 0}, x::darks);
        row("home", x, new int[] {2, 3, 2, 5}, x::home);
        x.waits(0);
        row("darks after waits", x, new int[] {2, 0, 0, 1}, x::darks);
        row("home after waits", x, new int[] {3, 3, 2, 5}, x::home);
        x.undo();
        x.minute();
        x.minute();
        row("darks later", x, new int[] {0, 0, 0, 0}, x::darks);
        row("home later", x, new int[] {0, 1, 0, 3}, x::home);
        for (int walker : WRONG) {
            Check.due("darks(" + walker + ")", x.darks(walker), -1);
            Check.due("home(" + walker + ")", x.home(walker), -1);
        }
        Check.due("asking changes nothing", x.count(3) * 100 + x.count(7) * 10 + x.count(10), 212);
        NextLight y = Check.in("place a;place b;lane a b burns 0;walker d drunk from a to b at 3;");
        Check.due("three times in the dark", y.darks(0), 3);
        Check.due("home behind 6", y.home(0), 6);
    }

    private static void glowAndBurns() {
        NextLight x = Check.in(STREET);
        Check.due("glow()", x.glow(), 1);
        int[][] lit = {{0, 2, 2, 1, 0, 0, 0}, {0, 1, 1, 1, 1, 1, 0}};
        for (int lane = 0; lane < 2; lane++) {
            for (int minutes = 0; minutes < 7; minutes++) {
                Check.due("burns(" + lane + ", " + minutes + ")", x.burns(lane, minutes), lit[lane][minutes]);
            }
        }
        Check.due("burns(0, 99)", x.burns(0, 99), 0);
        for (int wrong : new int[] {-1, 100, Integer.MIN_VALUE, Integer.MAX_VALUE}) {
            Check.due("burns(0, " + wrong + ")", x.burns(0, wrong), -1);
            Check.due("burns(" + wrong + ", 0)", x.burns(wrong, 0), -1);
        }
        Check.due("burns(2, 0)", x.burns(2, 0), -1);
        x.minute();
        Check.due("glow() now", x.glow(), 0);
        NextLight y = Check.in("place a;place b;lane a b burns 9;burns 30;walker w lamp from a to b at 30;");
        y.send(0, 1);
        Check.due("though none is home", y.burns(0, 29) * 100 + y.burns(0, 30), 100);
        Check.due("lit again, and on, though all are home", y.burns(0, 31) * 100 + y.burns(0, 40), 3021);
        Check.due("glow of equal ones is the first", y.glow(), 0);
    }

    private static void delays() {
        NextLight x = Check.in(STREET);
        Check.due("delay(-1)", x.delay(-1), 0);
        row("delay", x, new int[] {2, 0, 0, 1}, x::delay);
        x.minute();
        Check.due("delay(-1) now", x.delay(-1), 0);
        row("delay now", x, new int[] {0, 0, 0, 0}, x::delay);
        x.undo();
        Check.due("delay(0) again", x.delay(0), 2);
        x.waits(0);
        Check.due("one wait is there", x.delay(0) * 10 + x.delay(3), 11);
        x.minute();
        x.minute();
        x.minute();
        Check.due("q is home", x.walker(2, 4) * 10 + x.delay(2), 10);
        for (int walker : new int[] {-2, 4, 6, Integer.MIN_VALUE, Integer.MAX_VALUE}) {
            Check.due("delay(" + walker + ")", x.delay(walker), -2);
        }
        NextLight y = Check.in("place a;place b;lane a b burns 1;walker v plain from a to b at 5;"
            + "walker w plain from a to b at 5;");
        Check.due("one is dark", y.delay(-1), 1);
        Check.due("the first row has the later one wait", y.delay(0) * 10 + y.delay(1), 1);
        NextLight z = Check.in("place a;place b;lane a b burns 3;walker v plain from a to b at 1;"
            + "walker w lamp from b to a at 2;");
        Check.due("v waits twice, for the lamp goes before", z.delay(-1) * 100 + z.delay(0) * 10 + z.delay(1), 20);
        z.mark(0, false);
        z.waits(0);
        z.delay(-1);
        z.mark(0, true);
        Check.due("and twice from the mark", z.delay(0), 2);
        z.waits(0);
        z.delay(-1);
        Check.town(z, "place a;place b;lane a b burns 0;walker v plain from a to b at 1;");
        Check.due("another town", z.delay(-1) * 10 + z.delay(0), 10);
        z.send(0, 1);
        Check.due("burns 0", z.delay(-1), 1);
        NextLight t = Check.in("place a;place b;lane a b burns 2;walker v plain from a to b at 0;");
        Check.due("in the dark", t.delay(-1), 1);
        t.send(0, 1);
        Check.due("lit", t.delay(-1), 0);
        t.undo();
        Check.due("in the dark again", t.delay(-1), 1);
        t.back(0);
        Check.due("home", t.delay(-1), 0);
    }

    private static void delayTies() {
        NextLight x = Check.in("place a;place b;place c;lane a b burns 0;lane b c burns 1;"
            + "walker p blind from c to a at 4;walker q drunk from b to c at 4;walker r lamp from c to a at 1;");
        Check.due("no dark", x.delay(-1), 0);
        row("q waits once for p, sooner than r twice for q:", x, new int[] {0, 1, 0}, x::delay);
        NextLight y = Check.in("place a;place b;place c;lane a b burns 2;lane b c burns 1;"
            + "walker p lamp from c to a at 1;walker q lamp from c to b at 0;walker r drunk from b to c at 3;");
        Check.due("no dark", y.delay(-1), 0);
        row("p waits once, sooner than q twice:", y, new int[] {1, 0, 0}, y::delay);
        NextLight z = Check.in("place a;place b;lane a b burns 2;walker p plain from a to b at 0;"
            + "walker q plain from b to a at 0;walker r plain from a to b at 0;");
        Check.due("one is dark", z.delay(-1), 1);
        row("two wait once, the later ones:", z, new int[] {0, 1, 1}, z::delay);
    }

    private static void boys() {
        NextLight x = Check.in(STREET);
        Check.due("boys()", x.boys(), 1);
        x.send(0, 1);
        Check.due("no more", x.boys(), 0);
        Check.due("nothing paid for asking", x.count(6), 4);
        NextLight y = Check.in("place a;place b;place c;place d;lane a b burns 1;lane a c burns 1;lane a d burns 1;"
            + "walker v plain from d to a at 0;walker w plain from c to a at 0;");
        Check.due("two lanes", y.boys(), 6);
        y.waits(0);
        Check.due("too late for one", y.boys(), -1);
        NextLight z = Check.in("place a;place b;place c;place d;lane a b burns 9;lane b c burns 9;lane c d burns 9;"
            + "walker v plain from a to d at 0;walker w plain from d to a at 1;");
        Check.due("all three", z.boys(), 7);
        NextLight t = Check.in("place a;place b;lane a b burns 9;burns feet*told;walker v plain from a to b at 9;");
        Check.due("just lit in minute 9", t.boys(), -1);
        t.minute();
        Check.due("lit long enough by one boy", t.boys(), 1);
    }

    private static void alarmAndBlind() {
        NextLight x = Check.in(STREET);
        Check.due("alarm()", x.alarm(), 0);
        Check.due("blind()", x.blind(), 0);
        x.minute();
        Check.due("alarm() 1", x.alarm(), 0);
        Check.due("blind() 1", x.blind(), 0);
        x.minute();
        Check.due("alarm() 2", x.alarm(), 1);
        Check.due("blind() 2", x.blind(), 1);
        x.minute();
        Check.due("alarm() 3", x.alarm(), 1);
        x.minute();
        Check.due("alarm() 4", x.alarm(), 0);
        x.minute();
        Check.due("alarm() 5", x.alarm(), 2);
        Check.due("blind() 5", x.blind(), 3);
        x.minute();
        Check.due("alarm() 6", x.alarm(), 0);
        NextLight y = Check.in(STREET);
        y.waits(0);
        y.waits(2);
        y.send(0, 1);
        y.send(1, 2);
        Check.due("nobody is out", y.alarm(), 3);
    }

    private static void meeting() {
        NextLight x = Check.in(STREET);
        Check.due("meet(0, 2)", x.meet(0, 2), 1);
        Check.due("meet(2, 0)", x.meet(2, 0), 1);
        Check.due("meet(0, 1)", x.meet(0, 1), -1);
        Check.due("meet(1, 3)", x.meet(1, 3), 2);
        Check.due("meet(0, 3)", x.meet(0, 3), -1);
        Check.due("meet(1, 1)", x.meet(1, 1), -1);
        for (int walker : WRONG) {
            Check.due("meet(0, " + walker + ")", x.meet(0, walker), -1);
            Check.due("meet(" + walker + ", 0)", x.meet(walker, 0), -1);
        }
        x.minute();
        Check.due("meet(0, 2) now", x.meet(0, 2), 0);
        NextLight y = Check.in("place a;place b;place c;lane a b burns 1;lane b c burns 1;"
            + "walker v plain from a to b at 0;walker w plain from b to a at 0;walker u plain from c to a at 0;"
            + "walker d drunk from a to b at 0;walker e plain from b to c at 1;");
        Check.due("they pass one another", y.meet(0, 1), -1);
        Check.due("at home there is no meeting", y.meet(0, 2), -1);
        Check.due("a drunk between", y.meet(3, 2), 1);
        Check.due("and out at once", y.meet(3, 0), 0);
        Check.due("a drunk who is there and not home", y.meet(3, 4), 1);
    }

    private static void thieves() {
        NextLight x = Check.in(STREET);
        Check.due("thief()", x.thief(), 0);
        x.minute();
        x.minute();
        Check.due("thief() behind two", x.thief(), 1);
        NextLight y = Check.in("place a;place b;place c;lane a b burns 2;lane b c burns 5;"
            + "walker p plain from a to b at 0;walker q plain from a to c at 1;walker r plain from a to a at 0;");
        Check.due("more burn behind q", y.thief(), 1);
        NextLight z = Check.in("place a;place b;place c;lane a b burns 1;lane b c burns 5;"
            + "walker q plain from a to c at 1;walker p plain from a to b at 0;");
        Check.due("of equal ones the first, though he is later", z.thief(), 0);
        NextLight t = Check.in("place a;place b;lane a b burns 0;walker q plain from a to b at 1;");
        Check.due("though nothing burns", t.thief(), 0);
        t.minute();
        t.minute();
        Check.due("nobody", t.thief(), -1);
    }

    private static void oilAndShares() {
        NextLight x = Check.in(STREET);
        Check.due("oil()", x.oil(), 8);
        row("share", x, new int[] {2, 0, 1, 2}, x::share);
        for (int walker : WRONG) {
            Check.none("share(" + walker + ")", () -> x.share(walker));
        }
        x.minute();
        Check.due("oil() now", x.oil(), 6);
        x.minute();
        Check.due("share(0) of one who is home", x.share(0), 0);
        Check.due("share(3)", x.share(3), 2);
        NextLight y = Check.in("place a;place b;lane a b burns 1;walker v plain from a to b at 4;");
        Check.due("oil of one", y.oil(), 1);
        y.send(0, 1);
        Check.due("what burns now is not added", y.oil(), 1);
    }

    private static void longer() {
        NextLight x = Check.in("place a;place b;lane a b burns 1;walker v plain from a to b at 0;"
            + "walker w plain from a to b at 3;walker u plain from a to b at 12;");
        Check.due("longer(0)", x.longer(0), 3);
        Check.due("longer(1)", x.longer(1), 3);
        Check.due("longer(2)", x.longer(2), 2);
        Check.due("longer(7)", x.longer(7), 2);
        Check.due("longer(8)", x.longer(8), 1);
        Check.due("longer(9)", x.longer(9), 1);
        Check.due("nothing is longer for asking", x.lane(0, 2), 1);
        for (int minutes : new int[] {-1, 10, Integer.MIN_VALUE, Integer.MAX_VALUE}) {
            Check.due("longer(" + minutes + ")", x.longer(minutes), -1);
        }
        NextLight y = Check.in("place a;place b;lane a b burns 1;walker v plain from a to b at 0;"
            + "walker w plain from a to b at 3;burns told=4;");
        Check.due("by burns", y.longer(3) * 10 + y.longer(4), 22);
        NextLight z = Check.in("place a;place b;lane a b burns 1;walker v plain from a to b at 0;"
            + "walker w plain from a to b at 3;burns (told=4)*3;");
        Check.due("just 3 more", z.longer(2) * 100 + z.longer(3) * 10 + z.longer(4), 212);
        z.minute();
        Check.due("the dark that was is not counted", z.longer(3), 1);
    }

    /** One who goes along his only LANE as the last of 99 MINUTES, and as the next one. */
    private static void ninetyNine() {
        NextLight x = Check.in("place a;place b;lane a b burns 2;walker v plain from a to b at 0;"
            + "walker w lamp from b to b at 0;walker u plain from a to b at 0;");
        x.back(2);
        for (int i = 0; i < 98; i++) {
            x.waits(0);
        }
        Check.due("since 98", x.walker(0, 3), 98);
        edge(x, new int[] {1, 99, 99, 2, 0, 0, 0, 1, 1, 1, -1});
        Check.due("delay beyond", x.delay(-1) * 10 + x.delay(0), 1);
        x.waits(0);
        edge(x, new int[] {0, -1, 0, 0, 1, -1, 0, 0, 0, 0, 0});
        Check.due("delay of none", x.delay(-1) * 10 + x.delay(0), 0);
        NextLight y = Check.in("place a;place b;lane a b burns 2;walker v plain from a to b at 0;"
            + "walker w plain from a to b at 0;");
        for (int i = 0; i < 99; i++) {
            y.waits(0);
            y.waits(1);
        }
        Check.due("met behind 99", y.meet(0, 1), 99);
        y.waits(1);
        Check.due("met behind 100", y.meet(0, 1), -1);
    }

    private static void edge(NextLight x, int[] due) {
        Check.due("darks(0)", x.darks(0), due[0]);
        Check.due("home(0)", x.home(0), due[1]);
        Check.due("glow()", x.glow(), due[2]);
        Check.due("burns(0, 99)", x.burns(0, 99), due[3]);
        Check.due("blind()", x.blind(), due[4]);
        Check.due("thief()", x.thief(), due[5]);
        Check.due("share(1)", x.share(1), due[6]);
        Check.due("oil()", x.oil(), due[7]);
        Check.due("share(0)", x.share(0), due[8]);
        Check.due("longer(0)", x.longer(0), due[9]);
        Check.due("boys()", x.boys(), due[10]);
    }

    private static void nobody() {
        NextLight x = Check.in("place a;place b;lane a b burns 4;");
        Check.due("glow()", x.glow(), 0);
        Check.due("burns(0, 3)", x.burns(0, 3), 0);
        x.send(0, 1);
        Check.due("burns(0, 3) lit", x.burns(0, 3), 1);
        Check.due("delay(-1)", x.delay(-1), 0);
        Check.due("delay(0)", x.delay(0), -2);
        Check.due("boys()", x.boys(), 0);
        Check.due("alarm()", x.alarm(), 1);
        Check.due("blind()", x.blind(), 1);
        Check.due("thief()", x.thief(), -1);
        Check.due("oil()", x.oil(), 0);
        Check.due("longer(9)", x.longer(9), 0);
    }
}
