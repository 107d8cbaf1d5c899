import java.lang.management.ManagementFactory;
import java.util.NoSuchElementException;
import java.util.Random;

/** Any arguments in any state: nothing is thrown but what the document names, and no call takes room. */
public final class RoughTest {
    private static final int[] EDGES = {Integer.MIN_VALUE, -9999, -2, -1, 0, 1, 2, 3, 4, 5, 6, 7, 8, 9, 10, 11, 12, 20,
        21, 30, 31, 98, 99, 100, 9999, 10000, Integer.MAX_VALUE};
    private static final String[] PIECES = {"place ", "lane ", "burns ", "walker ", "from ", "to ", "at ", "boy ",
        "minute;", "send ", "wait ", "back ", "plain ", "lamp ", "blind ", "drunk ", "not ", "and ", "or ", "told ",
        "left ", "feet ", "late ", "a ", "b ", "c ", "w ", "1 ", "30 ", "9999 ", "99999 ", "( ", ") ", "< ", "= ",
        "+ ", "- ", "* ", ";", ";", ";", "\n", "?", "abcdefghi "};

    public static void main(String[] args) {
        Random random = new Random(7);
        for (int i = 0; i < 300; i++) {
            rough(random);
        }
        longLaw();
        fullNames();
        room();
        Check.finish();
    }

    private static int edge(Random random) {
        return random.nextInt(3) == 0 ? EDGES[random.nextInt(EDGES.length)] : random.nextInt(7);
    }

    private static void rough(Random random) {
        NextLight x = new NextLight();
        for (int i = 0; i < 500; i++) {
            if (random.nextInt(60) == 0) {
                Check.town(x, "place a;place b;place c;lane a b burns 2;lane c b burns 0;"
                    + "walker w drunk from a to c at 2;walker v plain from c to a at 0;");
            }
            if (random.nextInt(12) == 0) {
                StringBuilder text = new StringBuilder();
                for (int j = random.nextInt(30); j > 0; j--) {
                    text.append(PIECES[random.nextInt(PIECES.length)]);
                }
                Check.tell(x, text.toString());
            }
            String thrown = call(x, random.nextInt(34), random);
            Check.due("thrown: " + thrown, thrown.isEmpty(), true);
        }
    }

    /** What was thrown that the document does not name, or nothing. */
    private static String call(NextLight x, int which, Random random) {
        int a = edge(random);
        int b = edge(random);
        int c = edge(random);
        try {
            if (which < 17) {
                first(x, which, a, b, random.nextLong());
            } else {
                second(x, which, a, b, c);
            }
        } catch (NoSuchElementException e) {
            return which == 27 || which == 29 ? "" : e.toString();
        } catch (RuntimeException e) {
            return e.toString();
        }
        return "";
    }

    private static void first(NextLight x, int which, int a, int b, long signs) {
        switch (which) {
            case 0: x.feed(signs, signs * 31, a); break;
            case 1: x.town(); break;
            case 2: x.evening(); break;
            case 3: x.lane(a, b); break;
            case 4: x.walker(a, b); break;
            case 5: x.way(a, b); break;
            case 6: x.next(a); break;
            case 7: x.minute(); break;
            case 8: x.send(a, b); break;
            case 9: x.waits(a); break;
            case 10: x.back(a); break;
            case 11: x.undo(); break;
            case 12: x.judged(a); break;
            case 13: x.darks(a); break;
            case 14: x.home(a); break;
            case 15: x.glow(); break;
            default: x.burns(a, b); break;
        }
    }

    private static void second(NextLight x, int which, int a, int b, int c) {
        switch (which) {
            case 17: x.delay(a); break;
            case 18: x.boys(); break;
            case 19: x.alarm(); break;
            case 20: x.blind(); break;
            case 21: x.meet(a, b); break;
            case 22: x.thief(); break;
            case 23: x.watch(a, b, c > 3); break;
            case 24: x.sets(a); break;
            case 25: x.look(a); break;
            case 26: x.oil(); break;
            case 27: x.share(a); break;
            case 28: x.longer(a); break;
            case 29: x.rests(a, b, c, a - b); break;
            case 30: x.nights(a, b, c); break;
            case 31: x.mark(a, b > 3); break;
            default: x.count(a); break;
        }
    }

    private static void longLaw() {
        StringBuilder law = new StringBuilder("place a;place b;lane a b burns 1;burns 0");
        int many = 0;
        while (law.length() < 998) {
            law.append("+1");
            many++;
        }
        law.append(";");
        NextLight x = Check.in(law.toString());
        Check.due("a long sum, at most 30", x.send(0, 1), Math.min(many, 30));
        NextLight y = Check.in("place a;place b;lane a b burns 1;"
            + "burns 1 or 1=1+1*(0 or 0=1+1*(0 and 1<1+1*(1 and 2<1+1*(0 or 5=1+2*2))));");
        Check.due("all levels open at once", y.send(0, 1), 1);
    }

    /** The most of everything that a TAPE of 1,000 signs can tell of. */
    private static void fullNames() {
        StringBuilder text = new StringBuilder();
        for (int i = 0; i < 6; i++) {
            text.append("place p").append((char) ('a' + i)).append(";");
        }
        for (int i = 0; i < 8; i++) {
            text.append("lane p").append((char) ('a' + i % 6)).append(" p").append((char) ('a' + (i + 1 + i / 6) % 6))
                .append(" burns ").append(i % 3).append(";");
        }
        for (int i = 0; i < 6; i++) {
            text.append("walker w").append((char) ('a' + i)).append(" drunk from p").append((char) ('a' + i))
                .append(" to p").append((char) ('a' + (i + 3) % 6)).append(" at ").append(i * 6).append(";");
        }
        NextLight x = Check.in(text.toString());
        Check.due("all there", x.count(0) * 100 + x.count(1) * 10 + x.count(2), 686);
        Check.due("delay", x.delay(-1) <= x.longer(0), true);
        Check.due("boys", x.boys(), -1);
        Check.due("sets", x.sets(0), 64);
    }

    private static void room() {
        com.sun.management.ThreadMXBean bean = (com.sun.management.ThreadMXBean) ManagementFactory.getThreadMXBean();
        long thread = Thread.currentThread().getId();
        NextLight x = new NextLight();
        String text = "place a;place b;place c;lane a b burns 2;lane c b burns 0;burns told+feet;"
            + "walker w drunk from a to c at 2;walker v plain from c to a at 0;";
        Check.town(x, text);
        dear(x);
        Check.tell(x, text);
        long before = bean.getThreadAllocatedBytes(thread);
        x.town();
        for (int i = 0; i < 20; i++) {
            dear(x);
        }
        long taken = bean.getThreadAllocatedBytes(thread) - before;
        Check.due("calls take no room, but took " + taken, taken < 2000, true);
        before = bean.getThreadAllocatedBytes(thread);
        new NextLight();
        taken = bean.getThreadAllocatedBytes(thread) - before;
        Check.due("an object takes little room, but took " + taken, taken < 40000, true);
    }

    private static void dear(NextLight x) {
        x.minute();
        x.send(0, 1);
        x.waits(0);
        x.back(1);
        x.mark(1, false);
        x.undo();
        x.delay(-1);
        x.boys();
        x.watch(0, 3, true);
        x.sets(0);
        x.look(9);
        x.nights(3, 20, 2);
        x.share(0);
        x.glow();
        x.thief();
        x.meet(0, 1);
        x.judged(2);
        x.rests(1, 0, 1, 2);
        x.mark(1, true);
    }
}
