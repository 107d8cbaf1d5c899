/** Promises 15 to 32: boundaries of what comes, of what is watched, of doors and nights, just inside and just beyond. */
public final class AheadEdgesTest {
    private static final String PAIR = "place a;place b;lane a b burns ";
    private static final String ROW = "place a;place b;place c;place d;place e;place f;lane a b burns 1;lane b c burns 1;"
        + "lane c d burns 1;lane d e burns 1;lane e f burns 1;";
    /** Each of the eight LANES is gone along, six at once in minute 0, the fourth and the eighth in minute 1. */
    private static final String ALL_LANES = "place a;place b;place c;place d;place e;place f;"
        + "lane a b burns N;lane c d burns N;lane d e burns N;lane a d burns N;lane e f burns N;lane f a burns N;"
        + "lane b c burns N;lane b e burns N;"
        + "walker u plain from a to b at 0;walker v plain from c to d at 0;walker w plain from d to e at 0;"
        + "walker x plain from e to f at 0;walker y plain from f to d at 0;walker z plain from c to e at 0;";
    private static final int[] FAR = {Integer.MIN_VALUE, Integer.MIN_VALUE + 1, -100, -2, 6, 7, 8, 100, 10000,
        Integer.MAX_VALUE - 1, Integer.MAX_VALUE};

    public static void main(String[] args) {
        behindNinetyNine();
        drunkAcrossNinetyNine();
        meetingBehindNinetyNine();
        tillAllAreHome();
        glowOfEqualOnes();
        burnsOfEveryMinute();
        noneToTwoWaits();
        everyRowOfTwo();
        lastRowOfAll();
        whatWasIsNotCounted();
        allLanes();
        blindAndAlarm();
        meetingOnlyOut();
        thieves();
        sixWatched();
        thirtyMinutes();
        sets();
        looking();
        shares();
        zeroToNineLonger();
        doors();
        drawing();
        oneToTwentyNights();
        wrongWalkers();
        Check.finish();
    }

    private static NextLight waiting(String town, int walker, int times) {
        NextLight x = Check.in(town);
        for (int i = 0; i < times; i++) {
            x.waits(walker);
        }
        return x;
    }

    /** 99 MINUTES at most: one who is OUT from 98 goes as the last of them, one from 99 no more. */
    private static void behindNinetyNine() {
        for (int since = 97; since <= 100; since++) {
            NextLight x = waiting(PAIR + "5;walker w plain from a to b at 0;", 0, since);
            boolean goes = since <= 98;
            Check.due("since", x.walker(0, 3), since);
            Check.due("darks, since " + since, x.darks(0), goes ? 1 : 0);
            Check.due("home, since " + since, x.home(0), goes ? since + 1 : -1);
            Check.due("glow, since " + since, x.glow(), goes ? since + 1 : 0);
            Check.due("burns behind 99, since " + since, x.burns(0, 99), since == 98 ? 5 : since == 97 ? 4 : 0);
            Check.due("boys, since " + since, x.boys(), goes ? -1 : 0);
            Check.due("blind, since " + since, x.blind(), goes ? 0 : 1);
            Check.due("thief, since " + since, x.thief(), goes ? 0 : -1);
            Check.due("oil, since " + since, x.oil(), goes ? 1 : 0);
            Check.due("share, since " + since, x.share(0), goes ? 1 : 0);
            Check.due("longer, since " + since, x.longer(9), goes ? 1 : 0);
            Check.due("delay, since " + since, x.delay(-1) * 10 + x.delay(0), since == 97 ? 2 : since == 98 ? 1 : 0);
            Check.due("he is not home", x.count(4), 0);
        }
    }

    /** Of the three times of a drunk only those count that lie within the 99. */
    private static void drunkAcrossNinetyNine() {
        for (int since = 95; since <= 99; since++) {
            NextLight x = waiting(PAIR + "0;walker d drunk from a to b at 0;", 0, since);
            Check.due("darks, since " + since, x.darks(0), Math.min(3, 99 - since));
            Check.due("home, since " + since, x.home(0), since <= 96 ? since + 3 : -1);
            Check.due("longer, since " + since, x.longer(0), Math.min(3, 99 - since));
            Check.due("thief, since " + since, x.thief(), since <= 96 ? 0 : -1);
            Check.due("of lamps that burn 1, since " + since, x.longer(1), since <= 98 ? 1 : 0);
        }
    }

    private static void meetingBehindNinetyNine() {
        for (int since = 97; since <= 101; since++) {
            NextLight x = waiting(PAIR + "2;walker v plain from a to b at 0;walker w plain from a to b at 0;", 0, since);
            for (int i = 0; i < since; i++) {
                x.waits(1);
            }
            Check.due("met, since " + since, x.meet(0, 1), since <= 99 ? since : -1);
            Check.due("the other way, since " + since, x.meet(1, 0), since <= 99 ? since : -1);
        }
    }

    /** MINUTES go by only till all are HOME, though LANES burn on. */
    private static void tillAllAreHome() {
        NextLight x = Check.in(PAIR + "20;walker w plain from a to b at 3;");
        Check.due("oil of his last minute alone", x.oil(), 1);
        Check.due("his share", x.share(0), 1);
        Check.due("glow", x.glow(), 4);
        Check.due("thief", x.thief(), 0);
        x.send(0, 1);
        Check.due("lit from now on", x.oil(), 4);
        Check.due("if he were home nobody would be out", x.share(0), 4);
        x.minute();
        x.minute();
        x.minute();
        x.minute();
        Check.due("all are home, and it burns", x.count(4) * 100 + x.lane(0, 3), 120);
        Check.due("no oil", x.oil(), 0);
        Check.due("glow now", x.glow(), 0);
        Check.due("blind", x.blind(), 1);
        Check.due("alarm", x.alarm(), 1);
        Check.due("burns on", x.burns(0, 19) * 10 + x.burns(0, 20), 10);
        Check.due("home behind 0", x.home(0), 0);
        Check.due("no dark", x.darks(0) + x.longer(0) + x.boys() + x.delay(-1), 0);
    }

    private static void glowOfEqualOnes() {
        NextLight one = Check.in(ROW + "walker w plain from a to f at 0;");
        Check.due("one at a time, so the first", one.glow(), 1);
        one.send(4, 5);
        Check.due("one now", one.glow(), 0);
        NextLight two = Check.in(ROW.replace("burns 1", "burns 2") + "walker w plain from a to f at 0;");
        Check.due("two at a time, from the second", two.glow(), 2);
        two.send(4, 5);
        Check.due("two behind 1 with the boy's", two.glow(), 1);
        two.send(2, 3);
        Check.due("three behind 1", two.glow(), 1);
        two.send(1, 2);
        Check.due("four behind 1", two.glow(), 1);
        two.send(0, 1);
        Check.due("four now", two.glow(), 0);
    }

    private static void burnsOfEveryMinute() {
        NextLight x = Check.in(PAIR + "20;walker w plain from a to b at 30;burns 30;");
        for (int minutes = -2; minutes <= 101; minutes++) {
            int lit = minutes < 31 ? 0 : Math.max(0, 61 - minutes);
            Check.due("burns(0, " + minutes + ")", x.burns(0, minutes), minutes < 0 || minutes > 99 ? -1 : lit);
        }
        Check.due("burns(1, 0)", x.burns(1, 0), -1);
        Check.due("burns(-1, 0)", x.burns(-1, 0), -1);
        NextLight y = Check.in(ALL_LANES.replace("N", "3"));
        Check.due("burns(7, 2)", y.burns(7, 2), 3);
        Check.due("burns(8, 2)", y.burns(8, 2), -1);
    }

    /** Each waits 0 to 2 times: a lamp that comes three minutes too late helps nobody. */
    private static void noneToTwoWaits() {
        int[][] due = {{0, 0}, {0, 1}, {0, 2}, {1, 0}, {1, 0}};
        for (int lamp = 0; lamp < due.length; lamp++) {
            NextLight x = Check.in(PAIR + "9;walker v plain from a to b at 1;walker l lamp from b to a at " + lamp + ";");
            Check.due("dark, lamp at " + lamp, x.delay(-1), due[lamp][0]);
            Check.due("waits, lamp at " + lamp, x.delay(0), due[lamp][1]);
            Check.due("the lamp does not wait", x.delay(1), 0);
            Check.due("beyond", x.delay(2), -2);
            Check.due("far beyond", x.delay(-2), -2);
            NextLight y = Check.in(PAIR + "9;walker l lamp from b to a at " + lamp + ";walker v plain from a to b at 1;");
            Check.due("dark, the other way round, lamp at " + lamp, y.delay(-1), due[lamp][0]);
            Check.due("waits, the other way round, lamp at " + lamp, y.delay(0) * 10 + y.delay(1), due[lamp][1]);
        }
        NextLight late = Check.in(PAIR + "9;walker v plain from a to b at 0;walker l lamp from b to a at 4;");
        late.minute();
        Check.due("v is home", late.delay(-1) * 10 + late.delay(0), 0);
        NextLight now = Check.in(ROW + "walker v plain from a to c at 0;walker l lamp from c to b at 3;");
        now.minute();
        now.minute();
        Check.due("v is home in the dark", now.delay(-1) * 10 + now.delay(0), 0);
        now.undo();
        Check.due("from minute 1 he can wait till 3 alone", now.delay(-1) * 10 + now.delay(0), 10);
        now.waits(0);
        Check.due("then till 4", now.delay(-1) * 10 + now.delay(0), 2);
    }

    /** A lamp lights the LANE only in one minute, for which it waits; the plain one must come behind it. */
    private static void everyRowOfTwo() {
        for (int lamp = 0; lamp <= 2; lamp++) {
            for (int plain = 0; plain <= Math.min(lamp + 1, 2); plain++) {
                String first = "walker l lamp from a to b at 0;";
                String second = "walker p plain from a to b at " + (lamp + 1 - plain) + ";";
                String law = "burns (late=" + lamp + ")*9;";
                NextLight x = Check.in(PAIR + "0;" + first + second + law);
                Check.due("no dark", x.delay(-1), 0);
                Check.due("the row", x.delay(0) * 10 + x.delay(1), lamp * 10 + plain);
                NextLight y = Check.in(PAIR + "0;" + second + first + law);
                Check.due("no dark", y.delay(-1), 0);
                Check.due("the row the other way round", y.delay(0) * 10 + y.delay(1), plain * 10 + lamp);
            }
        }
    }

    /** Five lamps must meet in minute 2, and the plain one come in 3: all six wait twice, the last row of all. */
    private static void lastRowOfAll() {
        StringBuilder walkers = new StringBuilder();
        for (int i = 0; i < 5; i++) {
            walkers.append("walker l").append((char) ('a' + i)).append(" lamp from a to b at 0;");
        }
        NextLight x = Check.in(PAIR + "0;" + walkers + "walker p plain from a to b at 1;burns (feet=5)*(late=2)*9;");
        Check.due("no dark", x.delay(-1), 0);
        for (int i = 0; i < 6; i++) {
            Check.due("delay(" + i + ")", x.delay(i), 2);
        }
        Check.due("delay(6)", x.delay(6), -2);
        NextLight y = Check.in(PAIR + "3;" + walkers.toString().replace("lamp", "plain") + "walker p lamp from b to a at 1;");
        Check.due("no dark behind the lamp", y.delay(-1), 0);
        for (int i = 0; i < 6; i++) {
            Check.due("delay(" + i + ") behind the lamp", y.delay(i), i < 5 ? 2 : 0);
        }
    }

    /** All from how it is now: the DARK that has been, and what has been paid, are no part of it. */
    private static void whatWasIsNotCounted() {
        NextLight x = Check.in(ROW + "walker v plain from a to c at 0;walker w plain from f to e at 3;");
        x.minute();
        Check.due("dark once", x.count(7), 1);
        Check.due("boys", x.boys(), -1);
        Check.due("delay", x.delay(-1), 2);
        Check.due("no waits", x.delay(0) + x.delay(1), 0);
        Check.due("longer", x.longer(0), 2);
        Check.due("darks", x.darks(0) * 10 + x.darks(1), 11);
        x.send(1, 2);
        Check.due("one is left", x.longer(0) * 10 + x.delay(-1), 11);
        x.minute();
        x.minute();
        Check.due("now he can be helped", x.boys(), 16);
        x.send(4, 5);
        Check.due("nobody more", x.boys(), 0);
        Check.due("dark once still", x.count(7), 1);
    }

    private static void allLanes() {
        NextLight none = Check.in(ALL_LANES.replace("N", "0"));
        Check.due("boys whose lanes do not burn", none.boys(), -1);
        NextLight one = Check.in(ALL_LANES.replace("N", "1"));
        Check.due("the fourth and the eighth would be out by minute 1", one.boys(), -1);
        NextLight two = Check.in(ALL_LANES.replace("N", "2"));
        Check.due("boys in all eight", two.boys(), 255);
        for (int lane = 0; lane < 8; lane++) {
            Check.due("send", two.send(two.lane(lane, 0), two.lane(lane, 1)), 2);
            Check.due("those that are left", two.boys(), 255 & ~((2 << lane) - 1));
        }
        Check.due("all burn", two.count(5), 255);
        Check.due("nobody in the dark", two.longer(0), 0);
        Check.due("two are not gone along now", two.alarm(), 1 << 3 | 1 << 7);
        Check.due("all are gone along", two.blind(), 0);
        two.minute();
        Check.due("four are home", two.count(4), 15);
        Check.due("all but two", two.alarm(), 255 & ~(1 << 3 | 1 << 7));
        Check.due("all but two any more", two.blind(), 255 & ~(1 << 3 | 1 << 7));
        two.minute();
        Check.due("nobody", two.alarm() * 1000 + two.blind(), 255255);
        NextLight three = Check.in(ALL_LANES.replace("N", "3"));
        three.minute();
        Check.due("two lanes, one of them in the dark for each", three.boys(), 1 << 3 | 1 << 7);
        for (int told = 1; told <= 3; told++) {
            NextLight lamp = Check.in(PAIR + told + ";walker l lamp from a to b at 0;walker v plain from a to b at 2;");
            Check.due("a lamp goes before, told " + told, lamp.boys(), told < 2 ? -1 : 0);
        }
    }

    private static void blindAndAlarm() {
        NextLight x = Check.in(ROW + "walker v plain from a to b at 0;walker w plain from d to e at 0;"
            + "walker u plain from c to d at 30;");
        Check.due("two at once and one later", x.blind(), 1 << 1 | 1 << 4);
        Check.due("nothing burns", x.alarm(), 0);
        x.send(2, 3);
        Check.due("u is not out", x.alarm(), 4);
        x.send(0, 1);
        Check.due("v is", x.alarm(), 4);
        x.minute();
        Check.due("behind them", x.alarm(), 1 | 8);
        Check.due("u is to come", x.blind(), 31 & ~4);
        x.minute();
        Check.due("all out", x.alarm(), 0);
    }

    /** In one PLACE, both OUT: not before one's minute, not at HOME. */
    private static void meetingOnlyOut() {
        for (int at = 0; at <= 4; at++) {
            NextLight x = Check.in(ROW + "walker dd drunk from a to b at 0;walker w plain from a to b at " + at + ";");
            Check.due("w out from " + at, x.meet(0, 1), at == 0 || at == 2 ? at : -1);
        }
        NextLight y = Check.in(ROW + "walker v plain from a to c at 0;walker w plain from c to c at 0;"
            + "walker u plain from c to a at 0;walker t plain from b to c at 1;walker s plain from b to c at 2;");
        Check.due("with one who is home", y.meet(0, 1), -1);
        Check.due("in b", y.meet(0, 2), 1);
        Check.due("with one who comes out then", y.meet(0, 3), 1);
        Check.due("who comes out a minute later", y.meet(0, 4), -1);
        Check.due("both from b", y.meet(3, 4), -1);
        Check.due("himself", y.meet(3, 3), -1);
        Check.due("beyond", y.meet(3, 5), -1);
    }

    private static void thieves() {
        NextLight x = Check.in(ROW + "walker v plain from a to b at 0;walker w plain from c to d at 1;");
        Check.due("one burns behind each: the first", x.thief(), 0);
        x.send(4, 5);
        x.minute();
        Check.due("v is home", x.thief(), 1);
        x.minute();
        Check.due("nobody", x.thief(), -1);
        NextLight y = Check.in(ROW.replace("burns 1", "burns 2") + "walker v plain from a to b at 0;"
            + "walker w plain from c to d at 1;");
        Check.due("two burn behind w", y.thief(), 1);
        NextLight z = Check.in(ROW + "walker v plain from a to b at 30;walker w plain from c to d at 0;");
        Check.due("the first by numbers, though he comes later", z.thief(), 0);
        NextLight both = Check.in(ROW + "walker v plain from a to a at 0;walker w plain from c to d at 0;"
            + "walker u plain from d to e at 0;");
        Check.due("two at once: the first of them; not who is home now", both.thief(), 1);
    }

    /** 6 at most. */
    private static void sixWatched() {
        NextLight x = Check.in(PAIR + "3;walker w plain from a to b at 0;");
        for (int i = 0; i < 6; i++) {
            Check.due("so many", x.count(9), i);
            Check.due("watch " + i, x.watch(0, i % 2 == 0 ? 0 : 30, false), true);
        }
        Check.due("no seventh", x.watch(0, 1, true), false);
        Check.due("nor another", x.watch(0, 0, false), false);
        Check.due("6", x.count(9), 6);
        Check.due("all is so", x.sets(0), 2);
        NextLight y = Check.in(PAIR + "3;walker w plain from a to b at 0;");
        for (int i = 0; i < 5; i++) {
            y.watch(0, 0, false);
        }
        Check.due("the sixth counts", y.watch(0, 1, true), true);
        Check.due("w", y.sets(0) * 100 + y.sets(1) * 10 + y.sets(2), 111);
        y.mark(0, false);
        Check.due("6 in the mark", y.mark(0, true) ? y.count(9) : -1, 6);
        Check.due("no seventh behind a mark", y.watch(0, 1, true), false);
    }

    /** 0 to 30 MINUTES are watched and looked at. */
    private static void thirtyMinutes() {
        for (int at = 27; at <= 30; at++) {
            NextLight x = Check.in(PAIR + "1;walker w plain from a to b at " + at + ";");
            Check.due("look(30), at " + at, x.look(30), at == 29 ? 0 : -1);
            Check.due("look(29), at " + at, x.look(29), at == 28 ? 0 : -1);
            Check.due("look(31), at " + at, x.look(31), -1);
            Check.due("watch 30", x.watch(0, 30, true), true);
            Check.due("sets, at " + at, x.sets(0), at == 29 ? 1 : 0);
        }
        NextLight y = Check.in(PAIR + "1;walker w plain from a to b at 0;");
        for (int wrong : new int[] {Integer.MIN_VALUE, -2, -1, 31, 32, 99, Integer.MAX_VALUE}) {
            Check.due("watch(0, " + wrong + ")", y.watch(0, wrong, false), false);
            Check.due("look(" + wrong + ")", y.look(wrong), -1);
        }
        Check.due("look(0)", y.look(0), -1);
        Check.due("look(1)", y.look(1), 0);
        Check.due("watch 0: it does not burn now", y.watch(0, 0, false) ? y.sets(0) : -1, 2);
        y.send(0, 1);
        Check.due("but if it does", y.sets(0) * 100 + y.sets(1) * 10 + y.sets(2), -11);
        NextLight all = Check.in(ALL_LANES.replace("N", "3"));
        Check.due("watch(7, 2, true)", all.watch(7, 2, true), true);
        Check.due("watch(8, 2, true)", all.watch(8, 2, true), false);
        Check.due("watch(-1, 2, true)", all.watch(-1, 2, true), false);
        Check.due("z", all.sets(0) * 100 + all.sets(1), 3232);
    }

    /** Of those not HOME now; in all, in some; the empty one, too. */
    private static void sets() {
        String town = PAIR + "9;walker h plain from a to a at 0;walker v plain from a to b at 0;"
            + "walker w plain from a to b at 0;walker u plain from b to a at 1;";
        NextLight x = Check.in(town);
        Check.due("8 of 3", x.sets(0), 8);
        Check.due("in all", x.sets(1), 0);
        Check.due("in some: not who is home", x.sets(2), 14);
        x.watch(0, 2, false);
        Check.due("nobody", x.sets(0) * 1000 + x.sets(1) * 100 + x.sets(2), 1000);
        x.watch(0, 2, true);
        Check.due("no set", x.sets(0), 0);
        Check.due("no set in all", x.sets(1), -1);
        Check.due("no set in some", x.sets(2), -1);
        Check.due("no lane parts none", x.look(2), -1);
        NextLight one = Check.in(PAIR + "9;walker v plain from a to b at 0;walker w plain from a to b at 0;burns feet=1;");
        one.watch(0, 1, true);
        Check.due("one or the other", one.sets(0) * 100 + one.sets(1) * 10 + one.sets(2), 203);
        NextLight two = Check.in(PAIR + "9;walker v plain from a to b at 0;walker w plain from a to b at 0;burns feet=2;");
        two.watch(0, 1, true);
        Check.due("both", two.sets(0) * 100 + two.sets(1) * 10 + two.sets(2), 133);
        NextLight six = Check.in(ALL_LANES.replace("N", "1"));
        Check.due("64 of 6", six.sets(0) * 100 + six.sets(2), 6463);
        for (int far : FAR) {
            Check.due("sets(" + far + ")", six.sets(far), -1);
        }
        Check.due("sets(3)", six.sets(3), -1);
        Check.due("sets(-1)", six.sets(-1), -1);
    }

    /** The greater number is the least, and less than all; of equal ones the first. */
    private static void looking() {
        NextLight one = Check.in(ROW + "walker w plain from c to d at 0;");
        Check.due("one or none", one.look(1), 2);
        Check.due("out by then", one.look(2), -1);
        one.send(2, 3);
        Check.due("by w alone", one.look(1), 2);
        NextLight lit = Check.in(PAIR + "2;walker w plain from a to b at 0;");
        lit.send(0, 1);
        Check.due("it burns anyhow", lit.look(1), -1);
        Check.due("by w alone", lit.look(2), 0);
        NextLight none = Check.in(ROW + "walker w plain from a to a at 0;");
        Check.due("just one set", none.sets(0) * 10 + none.look(1), 9);
        NextLight more = Check.in(ROW + "walker v plain from a to b at 0;walker w plain from a to b at 0;"
            + "walker u plain from e to f at 0;");
        Check.due("4 of 8 before 6 of 8", more.look(1), 4);
        more.watch(4, 1, true);
        Check.due("then 3 of 4", more.look(1), 0);
        more.watch(0, 1, true);
        Check.due("then none, though three sets are left", more.look(1) * 10 + more.sets(0), -7);
        NextLight equal = Check.in(ROW + "walker v plain from b to c at 0;walker w plain from d to e at 0;");
        Check.due("of equal ones the first", equal.look(1), 1);
    }

    /** NoSuchElementException: others. */
    private static void shares() {
        NextLight x = Check.in(ROW + "walker v plain from a to c at 0;walker w plain from c to d at 9;burns 30;");
        Check.due("oil", x.oil(), 1 + 2 * 8 + 3);
        Check.due("v", x.share(0), 19);
        Check.due("w, without whom it ends sooner", x.share(1), 20 - 3);
        for (int far : FAR) {
            Check.none("share(" + far + ")", () -> x.share(far));
        }
        Check.none("share(-1)", () -> x.share(-1));
        Check.none("share(2)", () -> x.share(2));
        NextLight y = Check.in(PAIR + "1;walker v plain from a to b at 0;walker w plain from a to b at 0;"
            + "walker u plain from b to a at 5;burns (feet=1)*9;");
        Check.due("a share less than nothing", y.share(0), -5);
        NextLight six = Check.in(ALL_LANES.replace("N", "1"));
        Check.due("the sixth", six.share(5), 2);
        Check.none("the seventh", () -> six.share(6));
    }

    /** 0 to 9 minutes more, told of all LANES, by E, too. */
    private static void zeroToNineLonger() {
        NextLight x = Check.in(PAIR + "0;walker v plain from a to b at 0;walker w plain from a to b at 9;"
            + "walker u plain from a to b at 19;");
        for (int minutes = -2; minutes <= 12; minutes++) {
            int due = minutes < 0 || minutes > 9 ? -1 : minutes == 9 ? 2 : 3;
            Check.due("longer(" + minutes + ")", x.longer(minutes), due);
        }
        for (int far : FAR) {
            Check.due("longer(" + far + ")", x.longer(far), far >= 0 && far <= 9 ? 3 : -1);
        }
        NextLight y = Check.in(PAIR + "20;walker v plain from a to b at 0;walker w plain from a to b at 29;");
        Check.due("28 is too short", y.longer(8), 2);
        Check.due("29 is long enough", y.longer(9), 1);
        NextLight z = Check.in(PAIR + "20;walker v plain from a to b at 0;walker w plain from a to b at 30;burns told+5;");
        Check.due("29", z.longer(4), 2);
        Check.due("30", z.longer(5), 1);
        z.waits(1);
        Check.due("30 at most", z.longer(9), 2);
    }

    private static void doors() {
        NextLight x = new NextLight();
        for (int edge : new int[] {0, 9}) {
            Check.due("rests(edge, 0, 0, -1)", x.rests(edge, 0, 0, -1), edge == 0 ? 4 : 2);
            Check.due("rests(0, edge, 0, -1)", x.rests(0, edge, 0, -1), edge == 0 ? 4 : 2);
            Check.due("rests(0, 0, edge, -1)", x.rests(0, 0, edge, -1), edge == 0 ? 4 : 3);
            Check.due("rests(edge, edge, edge, -1)", x.rests(edge, edge, edge, -1), edge == 0 ? 4 : 2);
        }
        for (int wrong : new int[] {Integer.MIN_VALUE, -1, 10, Integer.MAX_VALUE}) {
            for (int what = -1; what <= 0; what++) {
                int i = what;
                Check.none("rests(" + wrong + ", 0, 0, " + i + ")", () -> x.rests(wrong, 0, 0, i));
                Check.none("rests(0, " + wrong + ", 0, " + i + ")", () -> x.rests(0, wrong, 0, i));
                Check.none("rests(0, 0, " + wrong + ", " + i + ")", () -> x.rests(0, 0, wrong, i));
            }
        }
        Check.due("the least first", x.rests(0, 0, 9, 0) * 100 + x.rests(0, 0, 9, 1) * 10 + x.rests(0, 0, 9, 2), 12);
        Check.none("no fourth", () -> x.rests(0, 0, 9, 3));
        Check.due("the fourth of four", x.rests(0, 0, 0, 3), 3);
        for (int wrong : new int[] {Integer.MIN_VALUE, -2, 4, 5, Integer.MAX_VALUE}) {
            Check.none("rests(0, 0, 0, " + wrong + ")", () -> x.rests(0, 0, 0, wrong));
        }
        Check.due("one alone", x.rests(0, 1, 1, -1) * 10 + x.rests(0, 1, 1, 0), 10);
        Check.none("no second", () -> x.rests(0, 1, 1, 1));
    }

    /** By the SEED 1 the first four of g / 65536 are 16838, 5758, 10113, 17515; modulo 31: 5, 23, 7, 0. */
    private static void drawing() {
        for (int told = 16; told <= 20; told++) {
            NextLight x = Check.in(PAIR + told + ";walker v plain from a to b at 0;walker w plain from a to b at 0;");
            int first = told < 18 ? 2 : 1;
            Check.due("5 and 23", x.nights(1, 1, 0), first);
            Check.due("then 7 and 0, too", x.nights(1, 2, 0), first + 1);
            Check.due("the greatest", x.nights(1, 2, 1), first);
            Check.due("oil of the first", x.nights(1, 1, 2), Math.min(18, told) + 1);
            Check.due("oil of both", x.nights(1, 2, 2), Math.min(18, told) + 1 + 8);
        }
        NextLight home = Check.in(PAIR + "6;walker h plain from a to a at 0;walker v plain from a to b at 0;"
            + "walker w plain from a to b at 0;walker u plain from b to a at 0;");
        Check.due("one who is home is drawn, too: 23, 7, 0", home.nights(1, 1, 0), 3);
        NextLight zero = Check.in(PAIR + "9;walker w plain from a to b at 9;");
        Check.due("by 0 the first is 0", zero.nights(0, 1, 2), 1);
    }

    private static void oneToTwentyNights() {
        NextLight x = Check.in(PAIR + "9;walker w plain from a to b at 9;");
        for (int many = -1; many <= 22; many++) {
            boolean so = many >= 1 && many <= 20;
            Check.due("nights(9999, " + many + ", 0)", x.nights(9999, many, 0), so ? many : -1);
            Check.due("nights(0, " + many + ", 1)", x.nights(0, many, 1), so ? 1 : -1);
            Check.due("nights(1, " + many + ", 2)", x.nights(1, many, 2), so ? many : -1);
        }
        for (int seed : new int[] {Integer.MIN_VALUE, -2, -1, 0, 1, 9998, 9999, 10000, 10001, Integer.MAX_VALUE}) {
            for (int what = -1; what <= 3; what++) {
                boolean so = seed >= 0 && seed <= 9999 && what >= 0 && what <= 2;
                Check.due("nights(" + seed + ", 1, " + what + ")", x.nights(seed, 1, what), so ? 1 : -1);
            }
        }
        for (int far : FAR) {
            Check.due("nights(1, " + far + ", 0)", x.nights(1, far, 0), far >= 1 && far <= 20 ? far : -1);
            Check.due("nights(1, 1, " + far + ")", x.nights(1, 1, far), -1);
        }
    }

    private static void wrongWalkers() {
        NextLight x = Check.in(ALL_LANES.replace("N", "1"));
        for (int far : FAR) {
            Check.due("darks(" + far + ")", x.darks(far), -1);
            Check.due("home(" + far + ")", x.home(far), -1);
            Check.due("delay(" + far + ")", x.delay(far), -2);
            Check.due("meet(" + far + ", 0)", x.meet(far, 0), -1);
            Check.due("meet(0, " + far + ")", x.meet(0, far), -1);
            Check.due("meet(" + far + ", " + far + ")", x.meet(far, far), -1);
            Check.due("next(" + far + ")", x.next(far), -1);
        }
        Check.due("darks(-1)", x.darks(-1), -1);
        Check.due("home(-1)", x.home(-1), -1);
        Check.due("delay(-1) is no walker", x.delay(-1) >= 0, true);
        Check.due("darks(5)", x.darks(5), 2);
        Check.due("home(5)", x.home(5), 2);
        Check.due("delay(5)", x.delay(5) >= 0, true);
        Check.due("next(5)", x.next(5), 6);
    }
}
