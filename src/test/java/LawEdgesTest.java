/** E of burns: how deep it goes, how its ints wrap, from where to where it tells, what its facts are. */
public final class LawEdgesTest {
    private static final String LANE = "place a;place b;lane a b burns ";

    public static void main(String[] args) {
        withinFive();
        besideOneAnother();
        leastKindWithinFive();
        wrapping();
        zeroToThirty();
        oneOrZero();
        fromTheLeft();
        facts();
        onlyIfMore();
        without();
        longest();
        Check.finish();
    }

    private static int fault(String law) {
        return Check.town(new NextLight(), "burns " + law + ";");
    }

    private static void due(String law, int want) {
        Check.due("burns " + law, fault(law), want == 0 ? 0 : want + 16 * 6);
    }

    /** What a boy lights in a LANE told 4, at minute 0. */
    private static void tells(String law, int want) {
        Check.due("burns " + law, Check.in(LANE + "4;burns " + law + ";").send(0, 1), want);
    }

    private static String openers(int bits, int many) {
        StringBuilder text = new StringBuilder();
        for (int i = 0; i < many; i++) {
            text.append((bits >> i & 1) == 0 ? "(" : "not ");
        }
        return text.toString();
    }

    private static String closers(String openers) {
        return ")".repeat((int) openers.chars().filter(sign -> sign == '(').count());
    }

    /** No PART lies within 5 of not and ( ), in whatever order they stand. */
    private static void withinFive() {
        for (int many = 0; many <= 6; many++) {
            for (int bits = 0; bits < 1 << many; bits++) {
                String open = openers(bits, many);
                String close = closers(open);
                int place = openers(bits, Math.min(many, 5)).length();
                for (String part : new String[] {"7", "0000", "told", "left", "feet", "late"}) {
                    due(open + part + close, many < 5 ? 0 : 5 + 16 * place);
                }
                due(open + "1+2<3*4 and 5" + close, many < 5 ? 0 : 5 + 16 * place);
            }
        }
    }

    /** What stands beside not and ( ) does not lie within them. */
    private static void besideOneAnother() {
        due("((((1))))+((((1))))", 0);
        due("((((1)+(1))+(1))+(1))+(1)", 0);
        due("not not not not 1 and not not not not 1", 0);
        due("not not not not 1+((((1))))", 0);
        due("not not not not 1+(((((1)))))", 5 + 16 * 23);
        due("not (not (1)+(2))+(not (not 3))", 0);
        due("((((1+(1)))))", 5 + 16 * 7);
        due("((((1+not 1))))", 5 + 16 * 10);
        due("(((not 1+(1))))", 0);
        due("(((not (1))))", 5 + 16 * 8);
        due("(((not 1+not not 1)))", 5 + 16 * 17);
        due("((((1)))+(((1))))", 0);
    }

    /** Within 5: what can begin no PART there is 1, the least; else it is 5. */
    private static void leastKindWithinFive() {
        for (String none : new String[] {"", ")", ";", "+", "-", "<", "and", "or", "place", "burns", "hill", "?", "12345",
            "abcdefghi"}) {
            Check.due("within 5: " + none, Check.town(new NextLight(), "burns (((((" + none), 1 + 16 * 11);
            Check.due("within 5 not: " + none, Check.town(new NextLight(), "burns not not not not not " + none),
                1 + 16 * 26);
        }
        for (String part : new String[] {"(", "not", "1", "9999", "told", "late"}) {
            Check.due("within 5: " + part, Check.town(new NextLight(), "burns (((((" + part), 5 + 16 * 11);
            Check.due("within 5 not: " + part, Check.town(new NextLight(), "burns not not not not not " + part),
                5 + 16 * 26);
            Check.due("within 4: " + part, Check.town(new NextLight(), "burns ((((" + part), 1 + 16 * (10 + part.length()));
        }
    }

    /** 8192 * 8192 * 32 is one more than the greatest int. */
    private static void wrapping() {
        tells("8192*8192*32", 0);
        tells("8192*8192*32<0", 1);
        tells("8192*8192*32-1", 30);
        tells("0<8192*8192*32-1", 1);
        tells("8192*8192*32-1+1<0", 1);
        tells("8192*8192*31+8191*8192+8191", 30);
        tells("8192*8192*31+8192*8191+8191+1<0", 1);
        tells("0-8192*8192*32<0", 1);
        tells("0-8192*8192*31-8192*8192-1", 30);
        tells("8192*8192*64", 0);
        tells("8192*8192*64+7", 7);
        tells("8192*8192*64=0", 1);
        tells("not (8192*8192*64)", 1);
        tells("8192*8192*64 or 0", 0);
        tells("8192*8192*32 and 1", 1);
        tells("8192*8192*65-8192*8192+11", 11);
        tells("9999*9999*9999<0", 1);
        tells("9999*9999*9999*9999=8192*8192*16+8192*1915+2497", 1);
    }

    private static void zeroToThirty() {
        for (int number = 0; number <= 40; number++) {
            tells("" + number, Math.min(number, 30));
            tells("10-" + number, Math.max(10 - number, 0));
            tells("0-" + number, 0);
        }
        tells("9999", 30);
        tells("0-9999", 0);
        String town = LANE + "20;walker w plain from a to b at 0;burns ";
        for (int number : new int[] {0, 1, 29, 30, 31, 9999}) {
            NextLight x = Check.in(town + number + ";");
            x.minute();
            Check.due("a walker by burns " + number, x.lane(0, 3), Math.min(number, 30));
        }
        NextLight y = Check.in(town + "0-1;");
        y.minute();
        Check.due("a walker by less than 0", y.lane(0, 3), 0);
    }

    /** Of not, and, or, < and = comes 1 or 0; what is not 0 is so. */
    private static void oneOrZero() {
        for (int a : new int[] {0, 1, 2, 9}) {
            for (int b : new int[] {0, 1, 2, 9}) {
                tells("(" + a + " and " + b + ")*7", a != 0 && b != 0 ? 7 : 0);
                tells("(" + a + " or " + b + ")*7", a != 0 || b != 0 ? 7 : 0);
                tells("(" + a + "<" + b + ")*7", a < b ? 7 : 0);
                tells("(" + a + "=" + b + ")*7", a == b ? 7 : 0);
            }
            tells("not " + a + "*7", a == 0 ? 7 : 0);
        }
        tells("(0-3 and 5)*7", 7);
        tells("not (0-1)", 0);
        tells("(0-1<0)*7", 7);
        tells("(0-1 or 0)*7", 7);
    }

    private static void fromTheLeft() {
        tells("9-3-2", 4);
        tells("9-3+2", 8);
        tells("2*3*4", 24);
        tells("1+2*3", 7);
        tells("2*3+1", 7);
        tells("1 or 0 and 0", 0);
        tells("0 and 0 or 1", 1);
        tells("1 and 1<0 or 1", 1);
        tells("2+2=4 and 3<2+2", 1);
        tells("not 0+not 0", 2);
        tells("not not 9+1", 2);
        due("1<2<3", 1 + 16 * 3);
        due("1=2=3", 1 + 16 * 3);
        due("1<2=3", 1 + 16 * 3);
        due("1=2<3", 1 + 16 * 3);
        due("(1<2)<3", 0);
        due("1<2 and 2<3 or 3=3", 0);
        due("1<not 2<3", 1 + 16 * 7);
    }

    private static void facts() {
        tells("told", 4);
        tells("left", 0);
        tells("feet", 1);
        tells("late", 0);
        for (int told : new int[] {0, 1, 20}) {
            Check.due("told " + told, Check.in(LANE + told + ";burns told;").send(0, 1), told);
        }
        NextLight late = Check.in(LANE + "4;burns late;");
        for (int minute = 0; minute <= 31; minute++) {
            Check.due("late " + minute, late.send(0, 1), Math.min(minute, 30));
            late.minute();
        }
        NextLight left = Check.in(LANE + "4;burns left*2+1;");
        int[] due = {1, 3, 7, 15, 30, 30};
        for (int i = 0; i < due.length; i++) {
            Check.due("left, boy " + i, left.send(0, 1), due[i]);
        }
        for (int many = 1; many <= 6; many++) {
            StringBuilder walkers = new StringBuilder();
            for (int i = 0; i < many; i++) {
                walkers.append("walker w").append((char) ('a' + i)).append(i % 2 == 0 ? " lamp from a to b" : " blind from b to a")
                    .append(" at 1;");
            }
            NextLight feet = Check.in(LANE + "4;burns feet;" + walkers);
            feet.minute();
            Check.due("nobody lights it", feet.lane(0, 3), 0);
            feet.minute();
            Check.due(many + " feet", feet.lane(0, 3), many);
        }
    }

    /** If that is more than it burns yet: a minute less comes before. */
    private static void onlyIfMore() {
        String drunk = "walker d drunk from a to b at 0;";
        NextLight less = Check.in(LANE + "9;" + drunk + "burns 9-late*2;");
        less.minute();
        Check.due("9", less.lane(0, 3), 9);
        less.minute();
        Check.due("8, not 7", less.lane(0, 3), 8);
        NextLight equal = Check.in(LANE + "9;" + drunk + "burns 9-late;");
        equal.minute();
        equal.minute();
        Check.due("8, as it is yet", equal.lane(0, 3), 8);
        NextLight more = Check.in(LANE + "9;" + drunk + "burns 9;");
        more.minute();
        more.minute();
        Check.due("9, one more than yet", more.lane(0, 3), 9);
        NextLight boy = Check.in(LANE + "9;burns 9-late*2;");
        Check.due("9 by a boy", boy.send(0, 1), 9);
        boy.minute();
        Check.due("8, not 7", boy.send(0, 1), 8);
        Check.due("he is paid", boy.count(6), 6);
        NextLight full = Check.in(LANE + "9;burns 30;");
        full.send(0, 1);
        Check.due("30 and no more", full.send(0, 1), 30);
        NextLight out = Check.in(LANE + "2;");
        out.send(0, 1);
        int[] due = {1, 0, 0, 0};
        for (int i = 0; i < due.length; i++) {
            out.minute();
            Check.due("less by one, and not less than 0", out.lane(0, 3), due[i]);
        }
    }

    /** Without burns: told. */
    private static void without() {
        for (int told : new int[] {0, 1, 19, 20}) {
            NextLight x = Check.in(LANE + told + ";walker w plain from a to b at 0;");
            x.minute();
            Check.due("told " + told, x.lane(0, 3), told);
        }
        NextLight y = Check.in(LANE + "3;burns 0;");
        Check.due("0 is told by burns", y.send(0, 1), 0);
    }

    /** As long an E as the TAPE can hold. */
    private static void longest() {
        StringBuilder sum = new StringBuilder(LANE + "4;burns 5");
        while (sum.length() + 5 <= 1000) {
            sum.append("+1-1");
        }
        Check.due("a long sum", Check.in(sum + ";").send(0, 1), 5);
        StringBuilder tests = new StringBuilder(LANE + "4;burns 1");
        while (tests.length() + 9 <= 1000) {
            tests.append("and 1or 0");
        }
        tests.setLength(tests.length() - 9);
        Check.due("a long row of tests", Check.in(tests + ";").send(0, 1), 1);
    }
}
