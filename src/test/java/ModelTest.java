import java.util.NoSuchElementException;
import java.util.Random;

/** All promises: random runs of calls on the class and on the model, whose answers are due to be alike. */
public final class ModelTest {
    private static final int RUNS = 400;
    private static final String[] NAMES = {"a", "bb", "gate", "told", "late", "x", "zzzzzzzz", "hill", "mill", "ann",
        "cy", "bob", "dee", "feet"};
    private static final String[] KINDS = {"plain", "lamp", "blind", "drunk"};

    private final Random random;
    private final NextLight x = new NextLight();
    private final Model model = new Model();
    private final StringBuilder told = new StringBuilder();

    private ModelTest(int seed) {
        random = new Random(seed);
    }

    public static void main(String[] args) {
        int runs = args.length > 0 ? Integer.parseInt(args[0]) : RUNS;
        int first = args.length > 1 ? Integer.parseInt(args[1]) : 0;
        for (int seed = first; seed < first + runs; seed++) {
            new ModelTest(seed).run(seed);
        }
        Check.finish();
    }

    private int below(int many) {
        return random.nextInt(many);
    }

    private void run(int seed) {
        told.append("run ").append(seed);
        boolean right = true;
        for (int town = 0; town < 2 && right; town++) {
            tell(town(), true);
            for (int i = 0; i < 90 && right; i++) {
                right = call(below(34));
            }
        }
    }

    private boolean tell(String text, boolean town) {
        boolean right = true;
        for (int i = 0; i < text.length(); i += 8) {
            long eight = 0;
            for (int j = i; j < i + 8; j++) {
                eight = eight << 8 | (j < text.length() ? text.charAt(j) : 0);
            }
            right &= same("feed", x.feed(eight, 0, 0), model.feed(eight, 0, 0));
        }
        told.append("\n  ").append(text);
        return right & same(town ? "town()" : "evening()", town ? x.town() : x.evening(),
            town ? model.town() : model.evening());
    }

    private boolean same(String call, int got, int want) {
        if (got != want) {
            System.out.println(told);
        }
        Check.due(call, got, want);
        return got == want;
    }

    private boolean same(String call, boolean got, boolean want) {
        return same(call, got ? 1 : 0, want ? 1 : 0);
    }

    private String name(int from, int many) {
        return NAMES[from + below(many)];
    }

    private String town() {
        StringBuilder text = new StringBuilder();
        int places = 2 + below(5);
        for (int i = 0; i < places; i++) {
            text.append("place ").append(NAMES[i]).append(";");
        }
        boolean[] pairs = new boolean[100];
        for (int i = below(9), lanes = 0; i >= 0 && lanes < 8; i--) {
            int a = below(places);
            int b = below(places);
            if (a != b && !pairs[a * 10 + b]) {
                pairs[a * 10 + b] = true;
                pairs[b * 10 + a] = true;
                lanes++;
                text.append("lane ").append(NAMES[a]).append(" ").append(NAMES[b]).append(" burns ")
                    .append(below(3) == 0 ? below(21) : below(4)).append(";");
                i += below(2);
            }
        }
        for (int i = below(6); i >= 0; i--) {
            text.append("walker ").append(NAMES[6 + i]).append(" ").append(KINDS[below(4)]).append(" from ")
                .append(name(0, places)).append(" to ").append(name(0, places)).append(" at ")
                .append(below(4) == 0 ? below(31) : below(5)).append(";");
        }
        if (below(2) == 0) {
            text.append("boy ").append(below(100)).append(";\n");
        }
        if (below(3) > 0) {
            text.append("burns ").append(law(3)).append(";");
        }
        return spoil(text, below(8) == 0 ? 1 + below(2) : 0);
    }

    private String law(int deep) {
        String[] signs = {"+", "-", "*", "<", "=", " and ", " or ", "+", "-"};
        if (deep == 0 || below(4) == 0) {
            return below(3) == 0 ? "" + below(12) : new String[] {"told", "left", "feet", "late"}[below(4)];
        }
        if (below(6) == 0) {
            return "not " + law(0);
        }
        String both = law(deep - 1) + signs[below(signs.length)] + law(deep - 1);
        return below(3) == 0 ? "(" + both + ")" : both;
    }

    private String spoil(StringBuilder text, int times) {
        String signs = "ab;0(9)<=+- z*\nA,";
        for (int i = 0; i < times && text.length() > 0; i++) {
            int at = below(text.length());
            if (below(3) == 0) {
                text.deleteCharAt(at);
            } else if (below(2) == 0) {
                text.insert(at, signs.charAt(below(signs.length())));
            } else {
                text.setCharAt(at, signs.charAt(below(signs.length())));
            }
        }
        return text.toString();
    }

    private String evening() {
        StringBuilder text = new StringBuilder();
        for (int i = below(below(10) == 0 ? 45 : 14); i > 0; i--) {
            int verb = below(6);
            if (verb < 3) {
                text.append("minute;");
            } else if (verb == 3) {
                text.append("send ").append(name(0, 4)).append(" ").append(name(0, 4)).append(";");
            } else {
                text.append(verb == 4 ? "wait " : "back ").append(name(6, 2)).append(";");
            }
        }
        return spoil(text, below(6) == 0 ? 1 : 0);
    }

    private int some(int most) {
        return below(12) == 0 ? below(3) == 0 ? Integer.MIN_VALUE : most + below(3) : below(most + 1) - below(2);
    }

    private boolean call(int which) {
        int a = some(5);
        int b = some(5);
        told.append("\n  call ").append(which).append(" ").append(a).append(" ").append(b);
        switch (which) {
            case 0:
            case 1:
                return tell(evening(), false);
            case 2:
                return same("lane", x.lane(a, b), model.lane(a, b));
            case 3:
                return same("walker", x.walker(a, b), model.walker(a, b));
            case 4:
                return same("way", x.way(a, b), model.way(a, b));
            case 5:
                return same("next", x.next(a), model.next(a));
            case 6:
            case 7:
            case 8:
                return same("minute", x.minute(), model.minute());
            case 9:
                return same("send", x.send(a, b), model.send(a, b));
            case 10:
                return same("waits", x.waits(a), model.waits(a));
            case 11:
                return same("back", x.back(a), model.back(a));
            case 12:
                return same("undo", x.undo(), model.undo());
            case 13:
                return same("judged", x.judged(b), model.judged(b));
            case 14:
                return same("darks", x.darks(a), model.darks(a));
            case 15:
                return same("home", x.home(a), model.home(a));
            default:
                return dear(which, a, b);
        }
    }

    private boolean dear(int which, int a, int b) {
        int minutes = some(31);
        switch (which) {
            case 16:
                return same("glow", x.glow(), model.glow());
            case 17:
                return same("burns", x.burns(a, minutes), model.burns(a, minutes));
            case 18:
                return below(4) > 0 || same("delay", x.delay(a), model.delay(a));
            case 19:
                return below(4) > 0 || same("boys", x.boys(), model.boys());
            case 20:
                return same("alarm", x.alarm(), model.alarm());
            case 21:
                return same("blind", x.blind(), model.blind());
            case 22:
                return same("meet", x.meet(a, b), model.meet(a, b));
            case 23:
                return same("thief", x.thief(), model.thief());
            case 24:
                boolean burnt = below(2) == 0;
                return same("watch", x.watch(a, minutes, burnt), model.watch(a, minutes, burnt));
            case 25:
                return same("sets", x.sets(b), model.sets(b));
            case 26:
                return same("look", x.look(minutes), model.look(minutes));
            case 27:
                return same("oil", x.oil(), model.oil());
            case 28:
                return same("share", share(true, a), share(false, a));
            case 29:
                return same("longer", x.longer(minutes), model.longer(minutes));
            case 30:
                int seed = below(10000);
                return same("nights", x.nights(seed, a, b), model.nights(seed, a, b));
            case 31:
                boolean back = below(2) == 0;
                return same("mark", x.mark(b, back), model.mark(b, back));
            default:
                return counts();
        }
    }

    private boolean counts() {
        boolean right = true;
        for (int what = -1; what <= 12; what++) {
            right &= same("count " + what, x.count(what), model.count(what));
        }
        return right;
    }

    private int share(boolean real, int walker) {
        try {
            return real ? x.share(walker) : model.share(walker);
        } catch (NoSuchElementException e) {
            return -1000;
        }
    }
}
