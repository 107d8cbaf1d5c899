/** Promises 1 to 4: a new object, feed, town, evening; TOKENS, E and every FAULT. */
public final class LanguageTest {
    private static final String PLACES = "place a;place b;place c;";
    private static final String SIX = "place a;place b;place c;place d;place e;place f;";

    public static void main(String[] args) {
        newObject();
        feeding();
        tokens();
        townLines();
        townFaults();
        tooMany();
        laws();
        lawFaults();
        eveningLines();
        eveningFaults();
        whatTownChanges();
        Check.finish();
    }

    private static void newObject() {
        NextLight x = new NextLight();
        for (int what = 0; what <= 11; what++) {
            Check.due("new count(" + what + ")", x.count(what), 0);
        }
        Check.due("new undo()", x.undo(), false);
        for (int i = 0; i < 4; i++) {
            Check.due("new mark(" + i + ", true)", x.mark(i, true), false);
        }
        Check.due("new way(0, 0)", x.way(0, 0), -1);
        Check.due("new send(0, 0)", x.send(0, 0), -1);
        Check.due("new judged(0)", x.judged(0), -1);
        Check.due("new judged(1)", x.judged(1), -1);
        Check.due("new judged(2)", x.judged(2), 0);
        Check.due("NONE", NextLight.NONE, -1);
    }

    private static void feeding() {
        NextLight x = new NextLight();
        Check.due("feed nothing", x.feed(0, 0, 0), 0);
        Check.due("feed 31, 127, 128, 255 and 9", x.feed(0x1F7F80FF09000000L, 0, -1L), 0);
        Check.due("feed 10, 32, 126 and 13", x.feed(0x0A207E0D00000000L, 0, 0), 3);
        Check.due("count(11)", x.count(11), 3);
        Check.due("the third sign is none", x.town(), 1 + 16 * 2);
        Check.due("it is taken", x.count(11), 0);
        Check.due("highest first, a before b before c",
            x.feed(0x706C616365000000L, 0x0000000000000020L, 0x7A3B000000000000L), 8);
        Check.due("place z;", x.town(), 0);
        Check.due("one place", x.count(0), 1);
        for (int i = 0; i < 41; i++) {
            Check.due("feed blanks " + i, x.feed(0x2020202020202020L, 0x2020202020202020L, 0x2020202020202020L),
                24 * (i + 1));
        }
        Check.due("feed to 1000", x.feed(0x2020202020202020L, 0x2020202020202020L, 0x3F3F202020202020L), 1000);
        Check.due("feed beyond", x.feed(0x3F00000000000000L, 0, 0), 1000);
        Check.due("count(11)", x.count(11), 1000);
        Check.due("what is beyond is left out", x.town(), 0);
        Check.due("no place", x.count(0), 0);
        NextLight y = new NextLight();
        for (int i = 0; i < 42; i++) {
            y.feed(0x2020202020202020L, 0x2020202020202020L, 0x2020202020202020L);
        }
        Check.due("1000 blanks as an evening", y.evening(), 0);
        for (int i = 0; i < 83; i++) {
            y.feed(0x6D696E7574653B20L, 0x2020202000000000L, 0);
        }
        Check.due("996 signs", y.count(11), 996);
        Check.due("41st line", y.evening(), 5 + 16 * 480);
    }

    private static void tokens() {
        NextLight x = new NextLight();
        Check.due("blanks where one likes", Check.town(x, " \n place\n\nabcdefgh ; boy\n07;"), 0);
        Check.due("cost 7", costOf(x, "place a;place b;lane a b burns 1;boy 0007;"), 7);
        Check.due("9 letters", fault("place abcdefghi;"), 1 + 16 * 6);
        Check.due("9 letters where no word may be", fault("boy 3; placeplac"), 1 + 16 * 7);
        Check.due("5 digits", fault("boy 00001;"), 1 + 16 * 4);
        Check.due("4 digits", fault("boy 0001;"), 0);
        Check.due("a letter behind a number", fault("place a;place b;lane a b burns 3burns"), 1 + 16 * 32);
        Check.due("a letter behind a number in E", fault("burns 3and 4;"), 0);
        Check.due("a digit behind a word", fault("place a1;"), 1 + 16 * 7);
        Check.due("a digit behind boy", fault("boy3;"), 0);
        Check.due("capital", fault("Place a;"), 1);
        Check.due("a capital behind a word", fault("placeA;"), 1 + 16 * 5);
        Check.due("other sign", fault("boy 3, boy"), 1 + 16 * 5);
        Check.due("two words run together", fault("placea;"), 1);
        Check.due("more than twelve letters", fault("place abcdefghijklmnopqrstuvwxyz;"), 1 + 16 * 6);
        Check.due("many digits", fault("boy 99999999999999999999;"), 1 + 16 * 4);
        Check.due("the end behind blanks", fault("boy 3  \n"), 1 + 16 * 8);
        Check.due("the end", fault("place"), 1 + 16 * 5);
        Check.due("empty", fault(""), 0);
        Check.due("only blanks", fault(" \n "), 0);
    }

    private static void townLines() {
        NextLight x = Check.in("boy 99;place told;place left;lane left told burns 20;"
            + "walker feet blind from told to told at 30;walker late drunk from told to left at 0;"
            + "place lonely;walker z lamp from lonely to told at 5;burns told;");
        Check.due("places", x.count(0), 3);
        Check.due("lanes", x.count(1), 1);
        Check.due("walkers", x.count(2), 3);
        Check.due("lane from", x.lane(0, 0), 1);
        Check.due("lane to", x.lane(0, 1), 0);
        Check.due("lane told", x.lane(0, 2), 20);
        Check.due("HOME at once and without a WAY", x.count(4), 5);
        Check.due("paid", x.send(0, 1) * 1000 + x.count(6), 20099);
        NextLight y = Check.in("place a;place b;lane a b burns 0;");
        y.send(1, 0);
        Check.due("a boy costs 3", y.count(6), 3);
        Check.due("a boy may cost 0", costOf(new NextLight(), "place a;place b;lane a b burns 0;boy 0;"), 0);
    }

    private static void townFaults() {
        String[] reserved = {"place", "lane", "burns", "walker", "from", "to", "at", "boy", "minute", "send", "wait",
            "back", "plain", "lamp", "blind", "drunk", "not", "and", "or"};
        for (String word : reserved) {
            Check.due("place " + word, fault("place " + word + ";"), 1 + 16 * 6);
            Check.due("walker " + word, fault("walker " + word + " plain"), 1 + 16 * 7);
            Check.due("lane a " + word, fault("place a;lane a " + word), 1 + 16 * 15);
        }
        Check.due("place twice", fault("place a;place a;"), 3 + 16 * 14);
        Check.due("walker of a place's name", fault("place a;walker a plain from a to a at 0;"), 3 + 16 * 15);
        Check.due("place of a walker's name", fault("place a;walker b plain from a to a at 0;place b;"), 3 + 16 * 46);
        Check.due("walker twice",
            fault("place a;walker b plain from a to a at 0;walker b plain from a to a at 0;"), 3 + 16 * 47);
        Check.due("lane of no place", fault("place a;lane b a burns 1;"), 2 + 16 * 13);
        Check.due("lane to no place", fault("place a;lane a b burns 1;"), 2 + 16 * 15);
        Check.due("lane to itself", fault("place a;lane a a burns 1;"), 3 + 16 * 15);
        Check.due("lane twice", fault(PLACES + "lane a b burns 1;lane a b burns 2;"), 3 + 16 * 48);
        Check.due("lane twice, the other way", fault(PLACES + "lane a b burns 1;lane b a burns 2;"), 3 + 16 * 48);
        Check.due("lane burns 20", fault(PLACES + "lane a b burns 20;"), 0);
        Check.due("lane burns 21", fault(PLACES + "lane a b burns 21;"), 4 + 16 * 39);
        Check.due("lane without burns", fault(PLACES + "lane a b at 1;"), 1 + 16 * 33);
        Check.due("lane burns a word", fault(PLACES + "lane a b burns a;"), 1 + 16 * 39);
        Check.due("lane burns E", fault(PLACES + "lane a b burns 1+1;"), 1 + 16 * 40);
        Check.due("walker at 30", fault("place a;walker w lamp from a to a at 30;"), 0);
        Check.due("walker at 31", fault("place a;walker w lamp from a to a at 31;"), 4 + 16 * 37);
        Check.due("walker of no kind", fault("place a;walker w told from a to a at 1;"), 1 + 16 * 17);
        Check.due("walker from no place", fault("place a;walker w lamp from b to a at 1;"), 2 + 16 * 27);
        Check.due("walker from a walker", fault("place a;walker w lamp from w to a at 1;"), 2 + 16 * 27);
        Check.due("walker to no place", fault("place a;walker w lamp from a to b at 1;"), 2 + 16 * 32);
        Check.due("walker without from", fault("place a;walker w lamp to a"), 1 + 16 * 22);
        Check.due("walker without to", fault("place a;walker w lamp from a from a"), 1 + 16 * 29);
        Check.due("walker without at", fault("place a;walker w lamp from a to a burns 1;"), 1 + 16 * 34);
        Check.due("boy 100", fault("boy 100;"), 4 + 16 * 4);
        Check.due("boy twice", fault("boy 1;boy"), 3 + 16 * 6);
        Check.due("burns twice", fault("burns 0;burns 1;"), 3 + 16 * 8);
        Check.due("minute in a town", fault("minute;"), 1);
        Check.due("a name first", fault("hill;"), 1);
        Check.due("a number first", fault("3;"), 1);
        Check.due("; alone", fault(";"), 1);
        Check.due("no ; behind a place", fault("place a place b;"), 1 + 16 * 8);
        Check.due("the first fault counts", fault("place a;place a;boy 100;"), 3 + 16 * 14);
    }

    private static void tooMany() {
        Check.due("6 places", fault(SIX), 0);
        Check.due("7 places", fault(SIX + "place g;"), 5 + 16 * 48);
        Check.due("a 7th place, though its name is wrong", fault(SIX + "place a;"), 5 + 16 * 48);
        String lanes = "lane a b burns 1;lane a c burns 1;lane a d burns 1;lane a e burns 1;"
            + "lane a f burns 1;lane b c burns 1;lane b d burns 1;lane b e burns 1;";
        Check.due("8 lanes", fault(SIX + lanes), 0);
        Check.due("9 lanes", fault(SIX + lanes + "lane b f burns 1;"), 5 + 16 * (48 + lanes.length()));
        StringBuilder walkers = new StringBuilder("place a;");
        for (int i = 0; i < 6; i++) {
            walkers.append("walker w").append((char) ('a' + i)).append(" lamp from a to a at 0;");
        }
        Check.due("6 walkers", fault(walkers.toString()), 0);
        Check.due("7 walkers", fault(walkers + "walker"), 5 + 16 * walkers.length());
    }

    private static void laws() {
        law("told", 4);
        law("late", 2);
        law("feet", 1);
        law("left", 0);
        law("left+7", 7);
        law("0", 0);
        law("30", 30);
        law("31", 30);
        law("9999", 30);
        law("3-5", 0);
        law("2+3*4", 14);
        law("(2+3)*4", 20);
        law("20-5-3", 12);
        law("20-(5-3)", 18);
        law("9-4*2", 1);
        law("2<3", 1);
        law("3<3", 0);
        law("3<2", 0);
        law("3=3", 1);
        law("3=4", 0);
        law("1+1<3*1", 1);
        law("(1<2)=1", 1);
        law("(2<3)+(2<3)", 2);
        law("7 and 8", 1);
        law("7 and 0", 0);
        law("0 or 9", 1);
        law("0 or 0", 0);
        law("1 or 1 and 0", 0);
        law("0 and 1 or 1", 1);
        law("0 and (1 or 1)", 0);
        law("not 0", 1);
        law("not 5", 0);
        law("not 0+4", 5);
        law("not 0*6", 6);
        law("not not 7", 1);
        law("not (2<1)", 1);
        law("not 1=0", 1);
        law("9999*9999*43", 30);
        law("0-9999*9999*22", 30);
        law("9999*9999*22", 0);
        law("told and late or feet", 1);
        law("not not not not 3", 1);
        law("((((13))))", 13);
        law("told*late+feet", 9);
    }

    /** What a boy lights in a LANE told 4, in minute 2. */
    private static void law(String law, int want) {
        NextLight x = Check.in("place a;place b;lane a b burns 4;burns " + law + ";");
        x.minute();
        x.minute();
        Check.due("a boy by burns " + law, x.send(0, 1), want);
    }

    private static void lawFaults() {
        Check.due("burns ;", fault("burns ;"), 1 + 16 * 6);
        Check.due("burns at", fault("burns at;"), 1 + 16 * 6);
        Check.due("a name in E", fault("burns hill;"), 1 + 16 * 6);
        Check.due("two parts", fault("burns 1 2;"), 1 + 16 * 8);
        Check.due("1 < 2 < 3", fault("burns 1<2<3;"), 1 + 16 * 9);
        Check.due("1 = 2 < 3", fault("burns 1=2<3;"), 1 + 16 * 9);
        Check.due("no part behind +", fault("burns 1+;"), 1 + 16 * 8);
        Check.due("a sign before", fault("burns -1;"), 1 + 16 * 6);
        Check.due("( )", fault("burns ();"), 1 + 16 * 7);
        Check.due("no )", fault("burns (1;"), 1 + 16 * 8);
        Check.due("a ) too many", fault("burns 1);"), 1 + 16 * 7);
        Check.due("the end", fault("burns 1"), 1 + 16 * 7);
        Check.due("not alone", fault("burns not;"), 1 + 16 * 9);
        Check.due("not behind a part", fault("burns 1 not 1;"), 1 + 16 * 8);
        Check.due("and first", fault("burns and 1;"), 1 + 16 * 6);
        Check.due("4 brackets", fault("burns ((((1))));"), 0);
        Check.due("5 brackets", fault("burns (((((1)))));"), 5 + 16 * 11);
        Check.due("6 brackets", fault("burns ((((((1))))));"), 5 + 16 * 11);
        Check.due("5 brackets round nothing", fault("burns ((((()))));"), 1 + 16 * 11);
        Check.due("5 brackets, the end", fault("burns ((((("), 1 + 16 * 11);
        Check.due("4 not", fault("burns not not not not 1;"), 0);
        Check.due("5 not", fault("burns not not not not not 1;"), 5 + 16 * 26);
        Check.due("6 not", fault("burns not not not not not not 1;"), 5 + 16 * 26);
        Check.due("not and ( ) together", fault("burns not (not (not told));"), 5 + 16 * 20);
        Check.due("not and ( ) within 4", fault("burns not (not (told));"), 0);
        Check.due("beside one another", fault("burns ((((1))))+((((1))));"), 0);
        Check.due("the second one is within 5", fault("burns ((((1+(1)))));"), 5 + 16 * 13);
    }

    private static void eveningLines() {
        NextLight x = Check.in("place a;place b;lane a b burns 2;walker w plain from a to b at 0;");
        Check.due("empty", Check.evening(x, ""), 0);
        Check.due("four lines", Check.evening(x, "minute;send b a;\nwait w ; back w;"), 0);
        Check.due("count(8)", x.count(8), 4);
        Check.due("a fault", Check.evening(x, "minute;minute"), 1 + 16 * 13);
        Check.due("all stays", x.count(8), 4);
        Check.due("the tape is taken", x.count(11), 0);
        Check.due("an empty one", Check.evening(x, "  "), 0);
        Check.due("count(8)", x.count(8), 0);
        StringBuilder forty = new StringBuilder();
        for (int i = 0; i < 40; i++) {
            forty.append("minute;");
        }
        Check.due("40 lines", Check.evening(x, forty.toString()), 0);
        Check.due("count(8)", x.count(8), 40);
        Check.due("41 lines", Check.evening(x, forty + "back"), 5 + 16 * 280);
        Check.due("no 41st line", Check.evening(x, forty + "a"), 1 + 16 * 280);
        Check.due("nothing has happened", x.count(3), 0);
    }

    private static void eveningFaults() {
        evening("place a;", 1);
        evening("minute", 1 + 16 * 6);
        evening("minute 1;", 1 + 16 * 7);
        evening("send a b;", 0);
        evening("send a c;", 0);
        evening("send c b;", 0);
        evening("send z b;", 2 + 16 * 5);
        evening("send w b;", 2 + 16 * 5);
        evening("send a z;", 2 + 16 * 7);
        evening("send a w;", 2 + 16 * 7);
        evening("send a a;", 3 + 16 * 7);
        evening("send a;", 1 + 16 * 6);
        evening("send 1 a;", 1 + 16 * 5);
        evening("send to a;", 1 + 16 * 5);
        evening("send a back;", 1 + 16 * 7);
        evening("send a b c;", 1 + 16 * 9);
        evening("wait w;", 0);
        evening("wait a;", 2 + 16 * 5);
        evening("wait v;", 2 + 16 * 5);
        evening("wait wait;", 1 + 16 * 5);
        evening("wait;", 1 + 16 * 4);
        evening("back w;", 0);
        evening("back a;", 2 + 16 * 5);
        evening("back 1;", 1 + 16 * 5);
        evening("back w w;", 1 + 16 * 7);
        evening("rest;", 1);
        evening("minute;;", 1 + 16 * 7);
        evening("minutes;", 1);
    }

    private static void evening(String text, int want) {
        NextLight x = Check.in(PLACES + "lane a b burns 2;walker w plain from a to b at 0;");
        Check.due("evening() of " + text, Check.evening(x, text), want);
    }

    private static void whatTownChanges() {
        String town = "place a;place b;lane a b burns 2;walker w plain from a to b at 0;";
        NextLight x = Check.in(town);
        Check.evening(x, "minute;");
        x.watch(0, 1, true);
        x.send(0, 1);
        x.minute();
        x.mark(2, false);
        Check.due("a fault", Check.town(x, "boy 3;boy 3;"), 3 + 16 * 6);
        Check.due("all stays: places", x.count(0), 2);
        Check.due("all stays: the minute", x.count(3), 1);
        Check.due("all stays: lines", x.count(8), 1);
        Check.due("all stays: watched", x.count(9), 1);
        Check.due("all stays: undo", x.count(10), 2);
        Check.due("all stays: mark", x.mark(2, true), true);
        x.minute();
        Check.due("the town once more", Check.town(x, town), 0);
        for (int what = 3; what <= 11; what++) {
            Check.due("count(" + what + ")", x.count(what), 0);
        }
        Check.due("walker is where he comes from", x.walker(0, 1), 0);
        Check.due("no mark is there", x.mark(2, true), false);
        Check.due("nothing to undo", x.undo(), false);
        Check.due("nothing for judged", x.judged(1), -1);
        Check.due("burns of the town before is gone", Check.town(x, town + "burns 9;"), 0);
        Check.due("burns 9", x.send(0, 1), 9);
        Check.due("another town", Check.town(x, town), 0);
        Check.due("told again", x.send(0, 1), 2);
        Check.due("and a boy costs 3", x.count(6), 3);
        Check.due("an empty town", Check.town(x, ""), 0);
        Check.due("no places", x.count(0) + x.count(1) + x.count(2), 0);
    }

    private static int fault(String text) {
        return Check.town(new NextLight(), text);
    }

    private static int costOf(NextLight x, String town) {
        Check.due("town() of " + town, Check.town(x, town), 0);
        x.send(0, 1);
        return x.count(6);
    }
}
