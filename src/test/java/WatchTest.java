/** Promises 25 to 27: what is WATCHED, the SETS by which it is so, the LANE to LOOK at. */
public final class WatchTest {
    private static final String TOWN = "place a;place b;place c;lane a b burns 3;lane b c burns 3;"
        + "walker p plain from a to b at 0;walker q plain from b to c at 0;walker r plain from a to c at 0;"
        + "walker h plain from c to c at 0;";

    public static void main(String[] args) {
        narrowing();
        wrongOnes();
        asItIsThen();
        beyondHome();
        looking();
        Check.finish();
    }

    private static void sets(String when, NextLight x, int many, int all, int some) {
        Check.due("sets(0) " + when, x.sets(0), many);
        Check.due("sets(1) " + when, x.sets(1), all);
        Check.due("sets(2) " + when, x.sets(2), some);
    }

    private static void narrowing() {
        NextLight x = Check.in(TOWN);
        sets("at first", x, 8, 0, 7);
        Check.due("watch(0, 1, true)", x.watch(0, 1, true), true);
        sets("p or r", x, 6, 0, 7);
        Check.due("watch(1, 1, false)", x.watch(1, 1, false), true);
        sets("not q", x, 3, 0, 5);
        Check.due("look(0)", x.look(0), -1);
        Check.due("look(1)", x.look(1), -1);
        Check.due("look(2)", x.look(2), 1);
        Check.due("watch(1, 2, true)", x.watch(1, 2, true), true);
        sets("r", x, 2, 4, 5);
        for (int i = 0; i <= 30; i++) {
            Check.due("none parts them at " + i, x.look(i), -1);
        }
        Check.due("watch(0, 0, true)", x.watch(0, 0, true), true);
        sets("none", x, 0, -1, -1);
        Check.due("look(2) of none", x.look(2), -1);
        Check.due("4 watched", x.count(9), 4);
        Check.due("nothing has happened", x.count(3) + x.count(10), 0);
    }

    private static void wrongOnes() {
        NextLight x = Check.in(TOWN);
        for (int wrong : new int[] {-1, 31, Integer.MIN_VALUE, Integer.MAX_VALUE}) {
            Check.due("watch(0, " + wrong + ", true)", x.watch(0, wrong, true), false);
            Check.due("watch(" + wrong + ", 0, false)", x.watch(wrong, 0, false), false);
            Check.due("look(" + wrong + ")", x.look(wrong), -1);
        }
        Check.due("watch(2, 0, false)", x.watch(2, 0, false), false);
        for (int wrong : new int[] {-1, 3, Integer.MIN_VALUE, Integer.MAX_VALUE}) {
            Check.due("sets(" + wrong + ")", x.sets(wrong), -1);
        }
        Check.due("none watched", x.count(9), 0);
        for (int i = 0; i < 6; i++) {
            Check.due("watch " + i, x.watch(1, 30, false), true);
        }
        Check.due("6 are", x.watch(1, 30, false), false);
        Check.due("6", x.count(9), 6);
        Check.due("all sets", x.sets(0), 8);
    }

    private static void asItIsThen() {
        NextLight x = Check.in(TOWN);
        x.watch(1, 2, false);
        sets("no q, no r", x, 2, 0, 1);
        x.minute();
        Check.due("p, q are home", x.count(4), 11);
        sets("q has lit it for longer", x, 0, -1, -1);
        x.minute();
        sets("all are home", x, 0, -1, -1);
        x.minute();
        sets("it burns yet for 2", x, 1, 0, 0);
        NextLight y = Check.in(TOWN);
        y.watch(1, 1, true);
        sets("q", y, 4, 2, 7);
        y.minute();
        sets("behind one more minute", y, 2, 0, 4);
        y.undo();
        sets("undone", y, 4, 2, 7);
    }

    /** LANES burn on when all of a set are HOME, or none is out. */
    private static void beyondHome() {
        NextLight x = Check.in(TOWN);
        x.send(0, 1);
        x.watch(0, 3, false);
        sets("neither p nor r, who would light it again", x, 2, 0, 2);
        x.watch(0, 2, true);
        sets("though nobody is out", x, 2, 0, 2);
        NextLight y = Check.in(TOWN);
        y.watch(1, 4, true);
        sets("r is the last", y, 4, 4, 7);
        y.watch(1, 5, true);
        sets("and nobody later", y, 0, -1, -1);
        NextLight z = Check.in("place a;place b;lane a b burns 1;walker d drunk from a to b at 27;");
        z.watch(0, 30, true);
        sets("30 minutes", z, 1, 1, 1);
    }

    private static void looking() {
        NextLight x = Check.in(TOWN);
        Check.due("4 of 8 burn lane 1 first", x.look(1), 1);
        Check.due("lane 0 and lane 1 alike: 6 of 8", x.look(2), 0);
        Check.due("the 30th", x.look(30), -1);
        Check.due("lane 1 by r", x.look(4), 1);
        NextLight y = Check.in("place a;place b;place c;lane a b burns 9;lane b c burns 9;lane a c burns 9;"
            + "walker p lamp from a to b at 3;walker q lamp from b to c at 3;walker r lamp from a to c at 3;");
        Check.due("none burns yet", y.look(3), -1);
        Check.due("of equal ones the first", y.look(4), 0);
        y.watch(0, 4, true);
        Check.due("then the next", y.look(4), 1);
        y.watch(1, 4, false);
        Check.due("then the last", y.look(4), 2);
        y.watch(2, 4, false);
        Check.due("just p", y.look(4) * 10 + y.sets(1), -9);
    }
}
