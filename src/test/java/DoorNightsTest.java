/** Promises 31 and 32: a DOOR at rest, NIGHTS by DRAWS. */
public final class DoorNightsTest {
    public static void main(String[] args) {
        everyDoor();
        wrongDoors();
        oneWalker();
        twoWalkers();
        wrongNights();
        fromTheBeginning();
        Check.finish();
    }

    private static void everyDoor() {
        for (int both = 0; both <= 9; both++) {
            for (int loses = 0; loses <= 9; loses++) {
                NextLight x = new NextLight();
                for (int gets = 0; gets <= 9; gets++) {
                    door(x, both, loses, gets);
                }
            }
        }
    }

    private static void door(NextLight x, int both, int loses, int gets) {
        boolean oneGoes = loses == 0 && gets >= both;
        boolean bothGo = both >= gets;
        boolean[] rest = {true, oneGoes, oneGoes, bothGo};
        String door = "rests(" + both + ", " + loses + ", " + gets + ", ";
        int many = 0;
        for (int i = 0; i < 4; i++) {
            if (rest[i]) {
                Check.due(door + many + ")", x.rests(both, loses, gets, many), i);
                many++;
            }
        }
        int found = many;
        Check.due(door + "-1)", x.rests(both, loses, gets, -1), found);
        Check.none(door + found + ")", () -> x.rests(both, loses, gets, found));
    }

    private static void wrongDoors() {
        NextLight x = new NextLight();
        for (int wrong : new int[] {-1, 10, Integer.MIN_VALUE, Integer.MAX_VALUE}) {
            Check.none("rests(" + wrong + ", 1, 1, -1)", () -> x.rests(wrong, 1, 1, -1));
            Check.none("rests(1, " + wrong + ", 1, 0)", () -> x.rests(1, wrong, 1, 0));
            Check.none("rests(1, 1, " + wrong + ", -1)", () -> x.rests(1, 1, wrong, -1));
        }
        for (int what : new int[] {-2, 4, Integer.MIN_VALUE, Integer.MAX_VALUE}) {
            Check.none("rests(2, 0, 2, " + what + ")", () -> x.rests(2, 0, 2, what));
        }
    }

    private static void oneWalker() {
        NextLight x = Check.in("place a;place b;lane a b burns 4;walker w plain from a to b at 7;");
        Check.due("each night once", x.nights(17, 20, 0), 20);
        Check.due("at most once", x.nights(17, 20, 1), 1);
        Check.due("oil till he is home", x.nights(17, 20, 2), 20);
        Check.due("one night", x.nights(9999, 1, 0), 1);
        NextLight y = Check.in("place a;place b;place c;lane a b burns 4;walker w plain from a to c at 7;");
        Check.due("without a way", y.nights(0, 20, 0) + y.nights(0, 20, 1) + y.nights(0, 20, 2), 0);
    }

    /** Of two who go along one LANE the second one is in the light if he comes while it burns. */
    private static void twoWalkers() {
        for (int told = 1; told <= 20; told += 3) {
            NextLight x = Check.in("place a;place b;place c;lane a b burns " + told + ";"
                + "walker v plain from a to b at 0;walker h plain from a to c at 0;walker w plain from b to a at 0;");
            for (int seed : new int[] {0, 1, 77, 4096, 9998, 9999}) {
                two(x, told, seed, 1 + seed % 20);
            }
        }
    }

    private static void two(NextLight x, int told, int seed, int many) {
        long g = seed;
        int times = 0;
        int most = 0;
        int oil = 0;
        for (int i = 0; i < many; i++) {
            int[] drawn = new int[3];
            for (int w = 0; w < 3; w++) {
                g = (g * 1103515245L + 12345) & 0x7FFFFFFFL;
                drawn[w] = (int) ((g >> 16) % 31);
            }
            int apart = Math.abs(drawn[0] - drawn[2]);
            int dark = apart > 0 && apart <= told ? 1 : 2;
            times += dark;
            most = Math.max(most, dark);
            oil += 1 + Math.min(told, apart);
        }
        String call = "told " + told + ": nights(" + seed + ", " + many + ", ";
        Check.due(call + "0)", x.nights(seed, many, 0), times);
        Check.due(call + "1)", x.nights(seed, many, 1), most);
        Check.due(call + "2)", x.nights(seed, many, 2), oil);
    }

    private static void wrongNights() {
        NextLight x = Check.in("place a;place b;lane a b burns 4;walker w plain from a to b at 7;");
        for (int wrong : new int[] {-1, 10000, Integer.MIN_VALUE, Integer.MAX_VALUE}) {
            Check.due("nights(" + wrong + ", 1, 0)", x.nights(wrong, 1, 0), -1);
        }
        for (int wrong : new int[] {-1, 0, 21, Integer.MIN_VALUE, Integer.MAX_VALUE}) {
            Check.due("nights(1, " + wrong + ", 0)", x.nights(1, wrong, 0), -1);
        }
        for (int wrong : new int[] {-1, 3, Integer.MIN_VALUE, Integer.MAX_VALUE}) {
            Check.due("nights(1, 1, " + wrong + ")", x.nights(1, 1, wrong), -1);
        }
    }

    private static void fromTheBeginning() {
        NextLight x = Check.in("place a;place b;lane a b burns 20;walker w plain from a to b at 0;"
            + "walker v plain from a to b at 0;");
        int before = x.nights(5, 20, 0);
        x.send(0, 1);
        x.back(1);
        x.minute();
        Check.due("as from the beginning", x.nights(5, 20, 0), before);
        Check.due("and nothing is changed", x.count(3) * 100 + x.count(6) * 10 + x.count(10), 133);
        Check.due("w is home", x.walker(0, 4), 1);
    }
}
