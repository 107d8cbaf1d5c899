/** Promises 2 to 4: each boundary that the document's Terms name, just inside and just beyond. */
public final class TellEdgesTest {
    private static final String[] TAKEN_WORDS = {"place", "lane", "burns", "walker", "from", "to", "at", "boy", "minute",
        "send", "wait", "back", "plain", "lamp", "blind", "drunk", "not", "and", "or"};
    private static final String[] FACTS = {"told", "left", "feet", "late"};
    private static final long BLANKS = 0x2020202020202020L;
    private static final String TOWN = "place a;place b;place c;lane a b burns 2;walker w plain from a to b at 0;";
    /** A blank between any two TOKENS. */
    private static final String ALL_OF_TOWN = "place a ; place b ; lane a b burns 20 ; walker w drunk from b to a at 30 ; "
        + "boy 99 ; burns not told + ( left - feet * 2 ) < late and 1 or 3 = 4 ; ";
    private static final String ALL_OF_EVENING = "minute ; send c a ; wait w ; back w ; ";

    public static void main(String[] args) {
        everyByteInEveryPlace();
        theFullTape();
        whatReadsTheTapeTakesIt();
        everySign();
        wordsOfEightLetters();
        numbersOfFourDigits();
        noStaleSigns();
        tokensAsLongAsCanBe();
        numbersAsTold();
        oncePerTown();
        oneTooMany();
        namesThatCanBeNone();
        namesOfNoPlaceOrWalker();
        namesToldAlready();
        everyEnd();
        everyTokenWrong();
        leastKindOfOneToken();
        Check.finish();
    }

    private static int town(String text) {
        return Check.town(new NextLight(), text);
    }

    private static int evening(String text) {
        return Check.evening(Check.in(TOWN), text);
    }

    private static void townDue(String text, int want) {
        Check.due("town() of " + text, town(text), want);
    }

    private static void eveningDue(String text, int want) {
        Check.due("evening() of " + text, evening(text), want);
    }

    /** 10 and 32 .. 126; others are left out, wherever they stand in a, b, c. */
    private static void everyByteInEveryPlace() {
        for (int sign = 0; sign < 256; sign++) {
            int taken = sign == 10 || sign >= 32 && sign <= 126 ? 1 : 0;
            NextLight x = new NextLight();
            for (int i = 0; i < 24; i++) {
                long[] bytes = new long[3];
                bytes[i / 8] = (long) sign << 56 - i % 8 * 8;
                Check.due("feed of " + sign + " at " + i, x.feed(bytes[0], bytes[1], bytes[2]), taken * (i + 1));
            }
            Check.due("count(11)", x.count(11), taken * 24);
            long eight = sign * 0x0101010101010101L;
            Check.due("24 of " + sign, new NextLight().feed(eight, eight, eight), taken * 24);
        }
    }

    private static NextLight filled(int many) {
        NextLight x = new NextLight();
        for (int i = 0; i < many / 24; i++) {
            x.feed(BLANKS, BLANKS, BLANKS);
        }
        for (int i = 0; i < many % 24; i++) {
            x.feed(32, 0, 0);
        }
        Check.due("filled", x.count(11), many);
        return x;
    }

    /** 1,000 signs at most; of those that come then the first stay. */
    private static void theFullTape() {
        Check.due("the 1000th", filled(999).feed('?', 0, 0), 1000);
        Check.due("no 1001st", filled(1000).feed('?', 0, 0), 1000);
        NextLight first = filled(999);
        Check.due("the first of two", first.feed(0x3F20L, 0, 0), 1000);
        Check.due("it is at 999", first.town(), 1 + 16 * 999);
        NextLight second = filled(999);
        Check.due("not the second", second.feed(0x203FL, 0x3F, 0x3F), 1000);
        Check.due("so all are blanks", second.town(), 0);
        NextLight cut = filled(999);
        cut.feed(0x61003B0000000000L, 0x3B, 0);
        Check.due("a word at 999", cut.town(), 1 + 16 * 999);
        NextLight end = filled(994);
        Check.due("boy 3 at the end", Check.tell(end, " boy 3;"), 1000);
        Check.due("the end is at 1000", end.town(), 1 + 16 * 1000);
        NextLight evening = filled(994);
        Check.tell(evening, "minute;");
        Check.due("the end of an evening is at 1000", evening.evening(), 1 + 16 * 1000);
        NextLight whole = filled(993);
        Check.due("minute; in time", Check.tell(whole, "minute;"), 1000);
        Check.due("it is one line", whole.evening() * 10 + whole.count(8), 1);
        NextLight again = filled(1000);
        again.town();
        Check.due("there is room again", Check.tell(again, "place a;"), 8);
        Check.due("for a town", again.town() * 10 + again.count(0), 1);
    }

    /** What reads it takes it: it is empty then, with a FAULT and without. */
    private static void whatReadsTheTapeTakesIt() {
        for (String text : new String[] {"", "place q;", "?", "minute;", "wait q;", "place q"}) {
            NextLight x = Check.in(TOWN);
            Check.due("told " + text, Check.tell(x, text), text.length());
            x.town();
            Check.due("town() takes " + text, x.count(11), 0);
            Check.tell(x, text);
            x.evening();
            Check.due("evening() takes " + text, x.count(11), 0);
            Check.due("nothing is left to read", x.evening() + x.town(), 0);
        }
        NextLight y = Check.in(TOWN);
        Check.tell(y, "pla");
        y.minute();
        y.undo();
        y.mark(0, false);
        y.mark(0, true);
        Check.due("nothing else takes it", y.count(11), 3);
        Check.due("signs come behind", Check.tell(y, "ce q;"), 8);
        Check.due("and are one text", y.town() * 10 + y.count(0), 1);
    }

    private static boolean isLetter(int sign) {
        return sign >= 'a' && sign <= 'z';
    }

    private static boolean isDigit(int sign) {
        return sign >= '0' && sign <= '9';
    }

    private static boolean isBlank(int sign) {
        return sign == 10 || sign == 32;
    }

    /** Letters a .. z, digits, ( ) < = + - * ; and blanks; all else is none. */
    private static void everySign() {
        for (int sign = 10; sign <= 126; sign = sign == 10 ? 32 : sign + 1) {
            String s = "" + (char) sign;
            townDue(s, isBlank(sign) ? 0 : 1);
            eveningDue(s, isBlank(sign) ? 0 : 1);
            boolean more = isBlank(sign) || isDigit(sign);
            townDue("boy 3" + s, sign == ';' ? 0 : 1 + 16 * (more ? 6 : 5));
            boolean apart = isBlank(sign) || sign == ';';
            townDue("place a" + s + "b;", isLetter(sign) ? 0 : 1 + 16 * (apart ? 8 : 7));
            boolean joins = isDigit(sign) || "+-*<=".indexOf(sign) >= 0;
            townDue("burns 1" + s + "1;", joins ? 0 : 1 + 16 * (apart ? 8 : 7));
            boolean before = isBlank(sign) || isDigit(sign);
            townDue("burns " + s + "1;", before ? 0 : 1 + 16 * (sign == '(' ? 8 : 6));
            eveningDue("minute" + s + ";", isBlank(sign) ? 0 : sign == ';' ? 1 + 16 * 7 : isLetter(sign) ? 1 : 1 + 16 * 6);
        }
    }

    /** WORDS of 8 letters at most; a longer one is none at its first sign. */
    private static void wordsOfEightLetters() {
        townDue("place a;", 0);
        townDue("place abcdefg;", 0);
        townDue("place abcdefgh;", 0);
        townDue("place abcdefghi;", 1 + 16 * 6);
        townDue("place  abcdefghi;", 1 + 16 * 7);
        townDue("place a;walker abcdefgh lamp from a to a at 0;", 0);
        townDue("place a;walker abcdefghi lamp from a to a at 0;", 1 + 16 * 15);
        townDue("lane abcdefghi a", 1 + 16 * 5);
        townDue("lane abcdefgh a", 2 + 16 * 5);
        eveningDue("wait abcdefgh;", 2 + 16 * 5);
        eveningDue("wait abcdefghi;", 1 + 16 * 5);
        eveningDue("send a abcdefgh;", 2 + 16 * 7);
        eveningDue("send a abcdefghi;", 1 + 16 * 7);
        townDue("place aaaaaaaa;place aaaaaaa;place aaaaaaab;place baaaaaaa;place zaaaaaaa;place zzzzzzzz;", 0);
        townDue("place aaaaaaaa;place aaaaaaab;place aaaaaaaa;", 3 + 16 * 36);
        townDue("place zzzzzzzz;place zzzzzzz;place zzzzzzz;", 3 + 16 * 35);
    }

    /** NUMBERS of 1 to 4 digits; a longer one is none at its first sign. */
    private static void numbersOfFourDigits() {
        townDue("boy 9;", 0);
        townDue("boy 09;", 0);
        townDue("boy 009;", 0);
        townDue("boy 0009;", 0);
        townDue("boy 00009;", 1 + 16 * 4);
        townDue("boy 9999;", 4 + 16 * 4);
        townDue("boy 10000;", 1 + 16 * 4);
        townDue("burns 9999;", 0);
        townDue("burns 10000;", 1 + 16 * 6);
        townDue("burns 4294967295;", 1 + 16 * 6);
        townDue("burns 1+00000;", 1 + 16 * 8);
        townDue("place a;place b;lane a b burns 00020;", 1 + 16 * 31);
        townDue("place a;walker w lamp from a to a at 00000;", 1 + 16 * 37);
    }

    /** What an earlier text left in the TAPE's room is not read. */
    private static void noStaleSigns() {
        NextLight x = new NextLight();
        Check.town(x, "boy 33333333;");
        Check.due("a number up to the end", Check.town(x, "boy 33"), 1 + 16 * 6);
        Check.town(x, "place aaaaaaaaaaaaaaaaa;");
        Check.due("a word up to the end", Check.town(x, "place aaa"), 1 + 16 * 9);
        Check.town(x, "place a;place b;");
        Check.due("one place alone", Check.town(x, "place a;") * 10 + x.count(0), 1);
        Check.evening(x, "minute;minute;minute;");
        Check.due("one line alone", Check.evening(x, "minute;") * 10 + x.count(8), 1);
    }

    /** Each TOKEN as long as can be, blanks where one likes; a letter may stand right behind a NUMBER. */
    private static void tokensAsLongAsCanBe() {
        townDue("placea;", 1);
        townDue("place\na\n;\n", 0);
        townDue("\n\n  place     a     ;   ", 0);
        townDue("pl ace a;", 1);
        townDue("boy 3 3;", 1 + 16 * 6);
        townDue("boy3;", 0);
        townDue("boy3;place a;", 0);
        townDue("boy 3place a;", 1 + 16 * 5);
        townDue("place a;place b;lane a b burns1;walker w lamp from a to b at1;", 0);
        townDue("burns 1and 2or 3;", 0);
        townDue("burns 1 and2or3;", 0);
        townDue("burns 1and2;", 0);
        townDue("burns 1an d2;", 1 + 16 * 7);
        townDue("burns nottold;", 1 + 16 * 6);
        townDue("burns not(told);", 0);
        townDue("burns not1;", 0);
        townDue("burns told<=1;", 1 + 16 * 11);
        townDue("burns told==1;", 1 + 16 * 11);
        townDue("burns 1--1;", 1 + 16 * 8);
        townDue("burns(1);", 0);
        eveningDue("minuteminute;", 1);
        eveningDue("minute;;", 1 + 16 * 7);
        eveningDue("minute;minute ;minute\n;", 0);
    }

    /** burns 0 to 20, at 0 to 30, boy 0 to 99; in E any NUMBER. */
    private static void numbersAsTold() {
        for (int number = 0; number <= 9999; number += number < 120 ? 1 : 997) {
            townDue("place a;place b;lane a b burns " + number + ";", number <= 20 ? 0 : 4 + 16 * 31);
            townDue("place a;walker w lamp from a to a at " + number + ";", number <= 30 ? 0 : 4 + 16 * 37);
            townDue("boy " + number + ";", number <= 99 ? 0 : 4 + 16 * 4);
            townDue("burns " + number + ";", 0);
        }
        for (int number : new int[] {0, 1, 20}) {
            Check.due("told " + number, Check.in("place a;place b;lane a b burns " + number + ";").lane(0, 2), number);
        }
        for (int number : new int[] {0, 1, 30}) {
            Check.due("at " + number, Check.in("place a;walker w lamp from a to a at " + number + ";").walker(0, 3),
                number);
        }
        for (int number : new int[] {0, 1, 99}) {
            NextLight x = Check.in("place a;place b;lane a b burns 1;boy " + number + ";");
            x.send(0, 1);
            x.send(0, 1);
            Check.due("two boys at " + number, x.count(6), 2 * number);
        }
        NextLight y = Check.in("place a;place b;lane a b burns 1;");
        y.send(0, 1);
        Check.due("3 if not told", y.count(6), 3);
    }

    /** boy, burns: once each, at the word of the second. */
    private static void oncePerTown() {
        townDue("boy 3;", 0);
        townDue("boy 3;boy 3;", 3 + 16 * 6);
        townDue("boy 3;boy", 3 + 16 * 6);
        townDue("boy 0;boy 0;", 3 + 16 * 6);
        townDue("burns 0;", 0);
        townDue("burns 0;burns 0;", 3 + 16 * 8);
        townDue("burns 0;burns", 3 + 16 * 8);
        townDue("boy 3;burns 0;boy 3;", 3 + 16 * 14);
        townDue("burns told;boy 3;place a;place b;lane a b burns 3;burns told;", 3 + 16 * 50);
        NextLight x = Check.in("boy 3;burns 0;");
        Check.due("once in each town", Check.town(x, "boy 3;burns 0;"), 0);
        Check.due("a fault between", Check.town(x, "boy 3;burns 0;?"), 1 + 16 * 14);
        Check.due("and once more", Check.town(x, "burns 0;boy 3;"), 0);
    }

    private static String places(int many) {
        StringBuilder text = new StringBuilder();
        for (int i = 0; i < many; i++) {
            text.append("place ").append((char) ('a' + i)).append(';');
        }
        return text.toString();
    }

    private static String lanes(int many) {
        StringBuilder text = new StringBuilder();
        for (int i = 0; i < many; i++) {
            text.append("lane ").append((char) ('a' + i % 6)).append(' ').append((char) ('a' + (i + 1 + i / 6) % 6))
                .append(" burns 1;");
        }
        return text.toString();
    }

    private static String walkers(int many) {
        StringBuilder text = new StringBuilder();
        for (int i = 0; i < many; i++) {
            text.append("walker w").append((char) ('a' + i)).append(" lamp from a to b at 0;");
        }
        return text.toString();
    }

    /** The word place of a seventh, lane of a ninth, walker of a seventh, the first word of a 41st line. */
    private static void oneTooMany() {
        for (int many = 0; many <= 7; many++) {
            NextLight x = new NextLight();
            Check.due(many + " places", Check.town(x, places(many)), many <= 6 ? 0 : 5 + 16 * 48);
            Check.due("so many", x.count(0), many <= 6 ? many : 0);
        }
        for (int many = 0; many <= 9; many++) {
            NextLight x = new NextLight();
            Check.due(many + " lanes", Check.town(x, places(6) + lanes(many)), many <= 8 ? 0 : 5 + 16 * (48 + 8 * 17));
            Check.due("so many", x.count(1), many <= 8 ? many : 0);
        }
        for (int many = 0; many <= 7; many++) {
            NextLight x = new NextLight();
            Check.due(many + " walkers", Check.town(x, places(2) + walkers(many)), many <= 6 ? 0 : 5 + 16 * (16 + 6 * 32));
            Check.due("so many", x.count(2), many <= 6 ? many : 0);
        }
        for (String rest : new String[] {"place", "place ?", "place a;", "place lane;", "place g"}) {
            townDue(places(6) + rest, 5 + 16 * 48);
        }
        for (String rest : new String[] {"lane", "lane ?", "lane z z", "lane a b burns 1;"}) {
            townDue(places(6) + lanes(8) + rest, 5 + 16 * (48 + 8 * 17));
        }
        for (String rest : new String[] {"walker", "walker ?", "walker a", "walker wa"}) {
            townDue(places(2) + walkers(6) + rest, 5 + 16 * (16 + 6 * 32));
        }
        townDue(places(6) + "lane a b burns 1;place g;", 5 + 16 * 65);
        for (String word : new String[] {"minute", "send", "wait", "back", "minute;", "send a b;", "wait w;", "back w;"}) {
            for (int many = 39; many <= 41; many++) {
                String text = "minute;".repeat(many - 1) + word;
                int cut = many < 41 && !word.endsWith(";") ? 1 + 16 * text.length() : 0;
                eveningDue(text, many < 41 ? cut : 5 + 16 * 280);
            }
        }
        eveningDue("minute;".repeat(40) + "\n ", 0);
    }

    private static void namesThatCanBeNone() {
        for (String word : TAKEN_WORDS) {
            townDue("place " + word + ";", 1 + 16 * 6);
            townDue("place a;walker " + word + " lamp from a to a at 0;", 1 + 16 * 15);
            townDue("place a;lane " + word + " a burns 1;", 1 + 16 * 13);
            townDue("place a;lane a " + word + " burns 1;", 1 + 16 * 15);
            townDue("place a;walker w lamp from " + word, 1 + 16 * 27);
            townDue("place a;walker w lamp from a to " + word, 1 + 16 * 32);
            boolean kind = "plain lamp blind drunk".contains(word);
            townDue("place a;walker w " + word + " from a to a at 0;", kind ? 0 : 1 + 16 * 17);
            eveningDue("send " + word + " a;", 1 + 16 * 5);
            eveningDue("send a " + word + ";", 1 + 16 * 7);
            eveningDue("wait " + word + ";", 1 + 16 * 5);
            eveningDue("back " + word + ";", 1 + 16 * 5);
            boolean first = "minute send wait back".contains(word);
            eveningDue(word, 1 + 16 * (first ? word.length() : 0));
            boolean line = "place lane walker boy burns".contains(word);
            townDue(word, 1 + 16 * (line ? word.length() : 0));
            townDue("burns " + word, 1 + 16 * (word.equals("not") ? 9 : 6));
        }
        for (String fact : FACTS) {
            townDue("place " + fact + ";walker w lamp from " + fact + " to " + fact + " at 0;burns " + fact + ";", 0);
            NextLight x = Check.in("place a;walker " + fact + " lamp from a to a at 0;");
            Check.due("wait " + fact, Check.evening(x, "wait " + fact + ";back " + fact + ";"), 0);
            townDue("place a;walker w " + fact + " from", 1 + 16 * 17);
        }
        for (String kind : new String[] {"king", "11", "12", "13", "14", "15", "16", "(", ";", "?", "plains", "lam"}) {
            townDue("place a;walker w " + kind + " from a to a at 0;", 1 + 16 * 17);
        }
        townDue("place a;walker w place b;", 1 + 16 * 17);
        townDue("place a;lane place b;", 1 + 16 * 13);
        townDue("boy place a;", 1 + 16 * 4);
        townDue("place place a;", 1 + 16 * 6);
        townDue("place a place b;", 1 + 16 * 8);
        townDue("place a;walker w lamp place b;", 1 + 16 * 22);
        townDue("burns place a;", 1 + 16 * 6);
        townDue("burns 1 place a;", 1 + 16 * 8);
        eveningDue("wait minute;", 1 + 16 * 5);
        eveningDue("send minute;", 1 + 16 * 5);
        eveningDue("send a minute;", 1 + 16 * 7);
        eveningDue("minute minute;", 1 + 16 * 7);
    }

    /** A NAME of no PLACE behind lane, from, to, send, the second of lane, send; of no WALKER behind wait, back. */
    private static void namesOfNoPlaceOrWalker() {
        String told = "place a;place b;walker w lamp from a to b at 0;";
        for (String name : new String[] {"z", "w", "aa", "told"}) {
            townDue(told + "lane " + name + " a burns 1;", 2 + 16 * (told.length() + 5));
            townDue(told + "lane a " + name + " burns 1;", 2 + 16 * (told.length() + 7));
            townDue(told + "walker v lamp from " + name + " to a at 0;", 2 + 16 * (told.length() + 19));
            townDue(told + "walker v lamp from a to " + name + " at 0;", 2 + 16 * (told.length() + 24));
            eveningDue("send " + name + " a;", 2 + 16 * 5);
            eveningDue("send a " + name + ";", 2 + 16 * 7);
        }
        for (String name : new String[] {"z", "a", "ww", "told"}) {
            eveningDue("wait " + name + ";", 2 + 16 * 5);
            eveningDue("back " + name + ";", 2 + 16 * 5);
        }
        townDue("place a;lane a b burns 1;place b;", 2 + 16 * 15);
        townDue("place a;walker w lamp from w to a at 0;", 2 + 16 * 27);
        townDue("place a;walker a", 3 + 16 * 15);
        NextLight x = Check.in(TOWN);
        Check.due("another town", Check.town(x, "place d;walker v lamp from d to d at 0;"), 0);
        Check.due("its walker", Check.evening(x, "wait v;"), 0);
        Check.due("not the one before", Check.evening(x, "wait w;"), 2 + 16 * 5);
        Check.due("a fault tells nobody", Check.town(x, "place e;walker u lamp from e to e at 0;?"), 1 + 16 * 39);
        Check.due("u", Check.evening(x, "wait u;"), 2 + 16 * 5);
        Check.due("v is still there", Check.evening(x, "wait v;"), 0);
    }

    /** A NAME told already; the second one that is the first one; a pair told, in either order. */
    private static void namesToldAlready() {
        townDue("place a;place b;", 0);
        townDue("place a;place a;", 3 + 16 * 14);
        townDue("place a;walker w lamp from a to a at 0;place w;", 3 + 16 * 45);
        townDue("place a;walker a lamp from a to a at 0;", 3 + 16 * 15);
        townDue("place a;walker w lamp from a to a at 0;walker w lamp from a to a at 0;", 3 + 16 * 46);
        townDue("place a;walker w lamp from a to a at 0;walker v lamp from a to a at 0;", 0);
        String three = "place a;place b;place c;";
        townDue(three + "lane a b burns 1;lane a c burns 1;lane c b burns 1;", 0);
        townDue(three + "lane a b burns 1;lane a b burns 1;", 3 + 16 * 48);
        townDue(three + "lane a b burns 1;lane b a burns 1;", 3 + 16 * 48);
        townDue(three + "lane a b burns 1;lane c b burns 1;lane b c", 3 + 16 * 65);
        townDue(three + "lane c c", 3 + 16 * 31);
        eveningDue("send a b;send a b;send b a;", 0);
        eveningDue("send a a;", 3 + 16 * 7);
        eveningDue("send c c", 3 + 16 * 7);
        eveningDue("wait w;wait w;back w;back w;", 0);
    }

    /** The end is a token at the text's length: a text cut behind any TOKEN but the last of a line. */
    private static void everyEnd() {
        for (int cut = 0; cut <= ALL_OF_TOWN.length(); cut++) {
            if (cut == 0 || ALL_OF_TOWN.charAt(cut - 1) == ' ') {
                String text = ALL_OF_TOWN.substring(0, cut);
                boolean whole = text.isEmpty() || text.endsWith("; ");
                townDue(text, whole ? 0 : 1 + 16 * cut);
                townDue(text.trim(), whole ? 0 : 1 + 16 * (cut - 1));
                townDue(text + "\n  ", whole ? 0 : 1 + 16 * (cut + 3));
            }
        }
        for (int cut = 0; cut <= ALL_OF_EVENING.length(); cut++) {
            if (cut == 0 || ALL_OF_EVENING.charAt(cut - 1) == ' ') {
                String text = ALL_OF_EVENING.substring(0, cut);
                boolean whole = text.isEmpty() || text.endsWith("; ");
                eveningDue(text, whole ? 0 : 1 + 16 * cut);
                eveningDue(text.trim(), whole ? 0 : 1 + 16 * (cut - 1));
                eveningDue(text + " \n ", whole ? 0 : 1 + 16 * (cut + 3));
            }
        }
    }

    /** What is none, in the place of any TOKEN, before any, and behind the last. */
    private static void everyTokenWrong() {
        for (String none : new String[] {"?", "A", "abcdefghi", "12345", "~", "\""}) {
            for (int at = 0; at < ALL_OF_TOWN.length(); at++) {
                if (at == 0 || ALL_OF_TOWN.charAt(at - 1) == ' ') {
                    String rest = ALL_OF_TOWN.substring(ALL_OF_TOWN.indexOf(' ', at));
                    townDue(ALL_OF_TOWN.substring(0, at) + none + rest, 1 + 16 * at);
                }
            }
            for (int at = 0; at < ALL_OF_EVENING.length(); at++) {
                if (at == 0 || ALL_OF_EVENING.charAt(at - 1) == ' ') {
                    String rest = ALL_OF_EVENING.substring(ALL_OF_EVENING.indexOf(' ', at));
                    eveningDue(ALL_OF_EVENING.substring(0, at) + none + rest, 1 + 16 * at);
                }
            }
            townDue(ALL_OF_TOWN + none, 1 + 16 * ALL_OF_TOWN.length());
            eveningDue(ALL_OF_EVENING + none, 1 + 16 * ALL_OF_EVENING.length());
        }
    }

    /** Of the first token that is wrong, and of its kinds the least. */
    private static void leastKindOfOneToken() {
        townDue("boy 100;boy 1;place a;place a;?", 4 + 16 * 4);
        townDue("place a;place a;boy 100;", 3 + 16 * 14);
        townDue("lane z z burns 99;", 2 + 16 * 5);
        townDue("place a;lane a z burns 99;", 2 + 16 * 15);
        townDue("boy 99999;", 1 + 16 * 4);
        townDue(places(6) + "?", 1 + 16 * 48);
        townDue(places(6) + "g;", 1 + 16 * 48);
        townDue(places(6) + "places", 1 + 16 * 48);
        String forty = "minute;".repeat(40);
        for (String word : new String[] {"?", "place", "w", "3", ";", "minutes", "not"}) {
            eveningDue(forty + word, 1 + 16 * 280);
        }
        eveningDue("minute;".repeat(39) + "wait z;minute;", 2 + 16 * 278);
        eveningDue("send a a minute", 3 + 16 * 7);
    }
}
