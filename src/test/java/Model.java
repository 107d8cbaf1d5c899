import java.util.ArrayDeque;
import java.util.ArrayList;
import java.util.Arrays;
import java.util.HashMap;
import java.util.List;
import java.util.Map;
import java.util.NoSuchElementException;

/** The document once more, written slowly and otherwise, to compare answers with. */
final class Model {
    private static final List<String> RESERVED = List.of("place", "lane", "burns", "walker", "from", "to", "at", "boy",
        "minute", "send", "wait", "back", "plain", "lamp", "blind", "drunk", "not", "and", "or");
    private static final List<String> KINDS = List.of("plain", "lamp", "blind", "drunk");
    private static final List<String> FACTS = List.of("told", "left", "feet", "late");

    /** A FAULT on its way out. */
    private static final class Fault extends RuntimeException {
        private static final long serialVersionUID = 1L;
        final int code;

        Fault(int code) {
            this.code = code;
        }
    }

    private static final class Token {
        final String text;
        final int place;

        Token(String text, int place) {
            this.text = text;
            this.place = place;
        }

        boolean isWord() {
            return text.matches("[a-z]{1,8}");
        }

        boolean isNumber() {
            return text.matches("[0-9]{1,4}");
        }

        boolean isName() {
            return isWord() && !RESERVED.contains(text);
        }

        Fault fault(int kind) {
            return new Fault(kind + 16 * place);
        }
    }

    private static final class Lane {
        int a;
        int b;
        int told;
    }

    private static final class Man {
        int kind;
        int from;
        int to;
        int at;
    }

    private static final class Land {
        final List<String> places = new ArrayList<>();
        final List<String> names = new ArrayList<>();
        final List<Lane> lanes = new ArrayList<>();
        final List<Man> men = new ArrayList<>();
        int boy = 3;
        List<String> law = null;
        final Map<Integer, List<Integer>> ways = new HashMap<>();

        int laneOf(int a, int b) {
            for (Lane lane : lanes) {
                if (lane.a == a && lane.b == b || lane.a == b && lane.b == a) {
                    return lanes.indexOf(lane);
                }
            }
            return -1;
        }

        /** The PLACES of the WAY, null if there is none. */
        List<Integer> way(int from, int to) {
            return ways.get(from * 10 + to);
        }

        void allWays() {
            for (int from = 0; from < places.size(); from++) {
                for (int to = 0; to < places.size(); to++) {
                    List<List<Integer>> found = new ArrayList<>();
                    search(new ArrayList<>(List.of(from)), to, found);
                    List<Integer> best = null;
                    for (List<Integer> way : found) {
                        if (best == null || way.size() < best.size()
                            || way.size() == best.size() && way.toString().compareTo(best.toString()) < 0) {
                            best = way;
                        }
                    }
                    ways.put(from * 10 + to, best);
                }
            }
        }

        private void search(List<Integer> sofar, int to, List<List<Integer>> found) {
            int here = sofar.get(sofar.size() - 1);
            if (here == to) {
                found.add(new ArrayList<>(sofar));
                return;
            }
            for (int next = 0; next < places.size(); next++) {
                if (!sofar.contains(next) && laneOf(here, next) >= 0) {
                    sofar.add(next);
                    search(sofar, to, found);
                    sofar.remove(sofar.size() - 1);
                }
            }
        }
    }

    /** How it is; a drunk between is told by the PLACES that he has yet to come to. */
    private static final class World {
        final Land land;
        int minute;
        int paid;
        int darks;
        int more;
        int[] lit;
        int[] place;
        int[] goal;
        int[] since;
        List<List<Integer>> ahead = new ArrayList<>();
        int darkNow;
        int lanesNow;

        World(Land land) {
            this.land = land;
            lit = new int[land.lanes.size()];
            place = land.men.stream().mapToInt(m -> m.from).toArray();
            goal = land.men.stream().mapToInt(m -> m.to).toArray();
            since = land.men.stream().mapToInt(m -> m.at).toArray();
            for (int i = 0; i < place.length; i++) {
                ahead.add(List.of());
            }
        }

        World copy() {
            World w = new World(land);
            w.minute = minute;
            w.paid = paid;
            w.darks = darks;
            w.lit = lit.clone();
            w.place = place.clone();
            w.goal = goal.clone();
            w.since = since.clone();
            w.ahead = new ArrayList<>(ahead);
            return w;
        }

        boolean home(int i) {
            if (!ahead.get(i).isEmpty()) {
                return false;
            }
            return place[i] == goal[i] || land.way(place[i], goal[i]) == null;
        }

        boolean out(int i) {
            return minute >= since[i] && !home(i);
        }

        boolean allHome() {
            for (int i = 0; i < place.length; i++) {
                if (!home(i)) {
                    return false;
                }
            }
            return true;
        }

        int nextPlace(int i) {
            return ahead.get(i).isEmpty() ? land.way(place[i], goal[i]).get(1) : ahead.get(i).get(0);
        }

        int nextLane(int i) {
            return out(i) ? land.laneOf(place[i], nextPlace(i)) : -1;
        }

        int burning() {
            int many = 0;
            for (int minutes : lit) {
                many += minutes > 0 ? 1 : 0;
            }
            return many;
        }

        void light(int lane, int feet) {
            int told = land.lanes.get(lane).told + more;
            int value = land.law == null ? told
                : new Value(land.law, Map.of("told", told, "left", lit[lane], "feet", feet, "late", minute)).read();
            lit[lane] = Math.max(lit[lane], Math.max(0, Math.min(30, value)));
        }

        void minute() {
            int[] feet = new int[lit.length];
            int[] lanes = new int[place.length];
            darkNow = 0;
            lanesNow = 0;
            for (int i = 0; i < place.length; i++) {
                lanes[i] = nextLane(i);
                if (lanes[i] >= 0) {
                    feet[lanes[i]]++;
                    lanesNow |= 1 << lanes[i];
                    int kind = land.men.get(i).kind;
                    if (lit[lanes[i]] == 0 && (kind == 0 || kind == 3)) {
                        darkNow |= 1 << i;
                        darks++;
                    }
                }
            }
            for (int i = 0; i < place.length; i++) {
                if (lanes[i] >= 0) {
                    step(i);
                }
            }
            for (int lane = 0; lane < lit.length; lane++) {
                lit[lane] = Math.max(0, lit[lane] - 1);
                if (feet[lane] > 0) {
                    light(lane, feet[lane]);
                }
            }
            minute++;
        }

        private void step(int i) {
            int here = place[i];
            place[i] = nextPlace(i);
            if (!ahead.get(i).isEmpty()) {
                ahead.set(i, ahead.get(i).subList(1, ahead.get(i).size()));
            } else if (land.men.get(i).kind == 3) {
                ahead.set(i, List.of(here, place[i]));
            }
        }

        boolean send(int a, int b) {
            int lane = land.laneOf(a, b);
            if (lane < 0) {
                return false;
            }
            light(lane, 1);
            paid += land.boy;
            return true;
        }

        boolean waits(int i) {
            if (home(i)) {
                return false;
            }
            since[i] = 1 + Math.max(minute, since[i]);
            return true;
        }

        boolean back(int i) {
            if (!out(i) || land.men.get(i).kind == 3) {
                return false;
            }
            goal[i] = land.men.get(i).from;
            return true;
        }

        void home(int... who) {
            for (int i : who) {
                ahead.set(i, List.of());
                goal[i] = place[i];
            }
        }

        /** All that comes, now the first. */
        List<World> course() {
            List<World> all = new ArrayList<>(List.of(this));
            World w = this;
            for (int i = 0; i < 99 && !w.allHome(); i++) {
                World next = w.copy();
                next.more = more;
                next.minute();
                all.add(next);
                w = next;
            }
            return all;
        }

        int darkTimes() {
            List<World> all = course();
            return all.get(all.size() - 1).darks - darks;
        }

        int oil() {
            return course().stream().skip(1).mapToInt(World::burning).sum();
        }

        World behind(int minutes) {
            World w = copy();
            for (int i = 0; i < minutes; i++) {
                w.minute();
            }
            return w;
        }
    }

    /** Reads an E that is known to be right, for its value. */
    private static final class Value {
        final List<String> tokens;
        final Map<String, Integer> facts;
        int at = 0;

        Value(List<String> tokens, Map<String, Integer> facts) {
            this.tokens = tokens;
            this.facts = facts;
        }

        int read() {
            int value = test();
            while (at < tokens.size() && (tokens.get(at).equals("and") || tokens.get(at).equals("or"))) {
                boolean and = tokens.get(at++).equals("and");
                int other = test();
                value = (and ? value != 0 && other != 0 : value != 0 || other != 0) ? 1 : 0;
            }
            return value;
        }

        private int test() {
            int value = sum();
            if (at < tokens.size() && tokens.get(at).equals("<")) {
                at++;
                return value < sum() ? 1 : 0;
            }
            if (at < tokens.size() && tokens.get(at).equals("=")) {
                at++;
                return value == sum() ? 1 : 0;
            }
            return value;
        }

        private int sum() {
            int value = product();
            while (at < tokens.size() && (tokens.get(at).equals("+") || tokens.get(at).equals("-"))) {
                value += tokens.get(at++).equals("+") ? product() : -product();
            }
            return value;
        }

        private int product() {
            int value = part();
            while (at < tokens.size() && tokens.get(at).equals("*")) {
                at++;
                value *= part();
            }
            return value;
        }

        private int part() {
            String token = tokens.get(at++);
            if (token.equals("not")) {
                return part() == 0 ? 1 : 0;
            }
            if (token.equals("(")) {
                int value = read();
                at++;
                return value;
            }
            return facts.containsKey(token) ? facts.get(token) : Integer.parseInt(token);
        }
    }

    /** Follows a text token by token, with the FAULTS. */
    private static final class Grammar {
        final List<Token> tokens = new ArrayList<>();
        int at = 0;

        Grammar(String text) {
            java.util.regex.Matcher m = java.util.regex.Pattern.compile("[a-z]+|[0-9]+|[^ \n]").matcher(text);
            while (m.find()) {
                tokens.add(new Token(m.group(), m.start()));
            }
            tokens.add(new Token("", text.length()));
        }

        Token here() {
            return tokens.get(at);
        }

        Token must(String text) {
            if (!here().text.equals(text)) {
                throw here().fault(1);
            }
            return tokens.get(at++);
        }

        String name() {
            if (!here().isName()) {
                throw here().fault(1);
            }
            return here().text;
        }

        String newName(Land land) {
            String name = name();
            if (land.places.contains(name) || land.names.contains(name)) {
                throw here().fault(3);
            }
            at++;
            return name;
        }

        int old(List<String> names) {
            int found = names.indexOf(name());
            if (found < 0) {
                throw here().fault(2);
            }
            return found;
        }

        int number(int most) {
            if (!here().isNumber()) {
                throw here().fault(1);
            }
            int number = Integer.parseInt(here().text);
            if (number > most) {
                throw here().fault(4);
            }
            at++;
            return number;
        }

        Land land() {
            Land land = new Land();
            boolean boyTold = false;
            while (!here().text.isEmpty()) {
                Token first = tokens.get(at++);
                if (first.text.equals("place")) {
                    tooMany(first, land.places.size(), 6);
                    land.places.add(newName(land));
                } else if (first.text.equals("lane")) {
                    tooMany(first, land.lanes.size(), 8);
                    lane(land);
                } else if (first.text.equals("walker")) {
                    tooMany(first, land.men.size(), 6);
                    man(land);
                } else if (first.text.equals("boy")) {
                    if (boyTold) {
                        throw first.fault(3);
                    }
                    land.boy = number(99);
                    boyTold = true;
                } else if (first.text.equals("burns")) {
                    if (land.law != null) {
                        throw first.fault(3);
                    }
                    int from = at;
                    law(0);
                    land.law = new ArrayList<>();
                    for (Token token : tokens.subList(from, at)) {
                        land.law.add(token.text);
                    }
                } else {
                    throw first.fault(1);
                }
                must(";");
            }
            land.allWays();
            return land;
        }

        private static void tooMany(Token first, int are, int most) {
            if (are == most) {
                throw first.fault(5);
            }
        }

        private void lane(Land land) {
            Lane lane = new Lane();
            lane.a = old(land.places);
            at++;
            lane.b = old(land.places);
            if (lane.a == lane.b || land.laneOf(lane.a, lane.b) >= 0) {
                throw here().fault(3);
            }
            at++;
            must("burns");
            lane.told = number(20);
            land.lanes.add(lane);
        }

        private void man(Land land) {
            Man man = new Man();
            String name = newName(land);
            man.kind = KINDS.indexOf(here().text);
            if (man.kind < 0) {
                throw here().fault(1);
            }
            at++;
            must("from");
            man.from = old(land.places);
            at++;
            must("to");
            man.to = old(land.places);
            at++;
            must("at");
            man.at = number(30);
            land.men.add(man);
            land.names.add(name);
        }

        private void law(int within) {
            do {
                sum(within);
                if (here().text.equals("<") || here().text.equals("=")) {
                    at++;
                    sum(within);
                }
            } while (take("and") || take("or"));
        }

        private void sum(int within) {
            do {
                part(within);
            } while (take("+") || take("-") || take("*"));
        }

        private void part(int within) {
            Token token = here();
            boolean starts = token.isNumber() || FACTS.contains(token.text) || token.text.equals("not")
                || token.text.equals("(");
            if (!starts) {
                throw token.fault(1);
            }
            if (within == 5) {
                throw token.fault(5);
            }
            at++;
            if (token.text.equals("not")) {
                part(within + 1);
            } else if (token.text.equals("(")) {
                law(within + 1);
                must(")");
            }
        }

        private boolean take(String text) {
            if (here().text.equals(text)) {
                at++;
                return true;
            }
            return false;
        }

        List<int[]> evening(Land land) {
            List<int[]> lines = new ArrayList<>();
            while (!here().text.isEmpty()) {
                Token first = here();
                int verb = List.of("minute", "send", "wait", "back").indexOf(first.text);
                if (verb < 0) {
                    throw first.fault(1);
                }
                tooMany(first, lines.size(), 40);
                at++;
                int[] line = {verb, -1, -1};
                if (verb == 1) {
                    line[1] = old(land.places);
                    at++;
                    line[2] = old(land.places);
                    if (line[1] == line[2]) {
                        throw here().fault(3);
                    }
                    at++;
                } else if (verb > 1) {
                    line[1] = old(land.names);
                    at++;
                }
                must(";");
                lines.add(line);
            }
            return lines;
        }
    }

    private static final class Marked {
        World world;
        List<int[]> lines;
        List<int[]> watched;
    }

    private String tape = "";
    private Land land = new Land();
    private World now = new World(land);
    private List<int[]> lines = new ArrayList<>();
    private List<int[]> watched = new ArrayList<>();
    private final ArrayDeque<World> past = new ArrayDeque<>();
    private final Marked[] marks = new Marked[4];

    int feed(long a, long b, long c) {
        for (long part : new long[] {a, b, c}) {
            for (byte sign : java.nio.ByteBuffer.allocate(8).putLong(part).array()) {
                if ((sign == 10 || sign >= 32 && sign < 127) && tape.length() < 1000) {
                    tape += (char) sign;
                }
            }
        }
        return tape.length();
    }

    int town() {
        String text = tape;
        tape = "";
        try {
            land = new Grammar(text).land();
        } catch (Fault fault) {
            return fault.code;
        }
        now = new World(land);
        lines = new ArrayList<>();
        watched = new ArrayList<>();
        past.clear();
        Arrays.fill(marks, null);
        return 0;
    }

    int evening() {
        String text = tape;
        tape = "";
        try {
            lines = new Grammar(text).evening(land);
        } catch (Fault fault) {
            return fault.code;
        }
        return 0;
    }

    private boolean isLane(int lane) {
        return lane >= 0 && lane < land.lanes.size();
    }

    private boolean isMan(int man) {
        return man >= 0 && man < land.men.size();
    }

    private boolean isPlace(int place) {
        return place >= 0 && place < land.places.size();
    }

    int lane(int lane, int what) {
        if (!isLane(lane) || what < 0 || what > 3) {
            return -1;
        }
        Lane l = land.lanes.get(lane);
        return new int[] {l.a, l.b, l.told, now.lit[lane]}[what];
    }

    int walker(int man, int what) {
        if (!isMan(man) || what < 0 || what > 5) {
            return -1;
        }
        return new int[] {land.men.get(man).kind, now.place[man], now.goal[man], now.since[man],
            now.home(man) ? 1 : 0, now.out(man) ? 1 : 0}[what];
    }

    int way(int from, int to) {
        return isPlace(from) && isPlace(to) && land.way(from, to) != null ? land.way(from, to).size() - 1 : -1;
    }

    int next(int man) {
        return isMan(man) ? now.nextLane(man) : -1;
    }

    private void keep() {
        past.push(now.copy());
        if (past.size() > 16) {
            past.removeLast();
        }
    }

    int minute() {
        keep();
        now.minute();
        return Integer.bitCount(now.darkNow);
    }

    int send(int from, int to) {
        World before = now.copy();
        if (!now.send(from, to)) {
            return -1;
        }
        past.push(before);
        if (past.size() > 16) {
            past.removeLast();
        }
        return now.lit[land.laneOf(from, to)];
    }

    int waits(int man) {
        if (!isMan(man) || now.home(man)) {
            return -1;
        }
        keep();
        now.waits(man);
        return now.since[man];
    }

    boolean back(int man) {
        if (!isMan(man) || !now.copy().back(man)) {
            return false;
        }
        keep();
        return now.back(man);
    }

    boolean undo() {
        if (past.isEmpty()) {
            return false;
        }
        now = past.pop();
        return true;
    }

    int judged(int what) {
        int left = -1;
        int dark = -1;
        World w = new World(land);
        for (int i = 0; i < lines.size(); i++) {
            int[] line = lines.get(i);
            int before = w.darks;
            boolean can = true;
            if (line[0] == 0) {
                w.minute();
            } else {
                can = line[0] == 1 ? w.send(line[1], line[2]) : line[0] == 2 ? w.waits(line[1]) : w.back(line[1]);
            }
            left = !can && left < 0 ? i : left;
            dark = w.darks > before && dark < 0 ? i : dark;
        }
        return what == 0 ? left : what == 1 ? dark : what == 2 ? w.darks : -2;
    }

    int darks(int man) {
        if (!isMan(man)) {
            return -1;
        }
        return (int) now.course().stream().skip(1).filter(w -> (w.darkNow >> man & 1) == 1).count();
    }

    int home(int man) {
        if (isMan(man)) {
            List<World> all = now.course();
            for (int i = 0; i < all.size(); i++) {
                if (all.get(i).home(man)) {
                    return i;
                }
            }
        }
        return -1;
    }

    int glow() {
        List<World> all = now.course();
        int best = 0;
        for (int i = 1; i < all.size(); i++) {
            best = all.get(i).burning() > all.get(best).burning() ? i : best;
        }
        return best;
    }

    int burns(int lane, int minutes) {
        return isLane(lane) && minutes >= 0 && minutes <= 99 ? now.behind(minutes).lit[lane] : -1;
    }

    /** Compared as rows of: how often, waits in all, the waits. */
    int delay(int man) {
        if (man != -1 && !isMan(man)) {
            return -2;
        }
        int[] best = null;
        int men = land.men.size();
        int[] row = new int[men + 2];
        while (true) {
            boolean allowed = true;
            World w = now.copy();
            row[1] = 0;
            for (int i = 0; i < men; i++) {
                allowed &= row[i + 2] == 0 || !now.home(i);
                row[1] += row[i + 2];
                for (int j = 0; j < row[i + 2]; j++) {
                    w.waits(i);
                }
            }
            if (allowed) {
                row[0] = w.darkTimes();
                if (best == null || Arrays.compare(row, best) < 0) {
                    best = row.clone();
                }
            }
            int i = men + 1;
            while (i >= 2 && row[i] == 2) {
                row[i--] = 0;
            }
            if (i < 2) {
                break;
            }
            row[i]++;
        }
        return best[man == -1 ? 0 : man + 2];
    }

    int boys() {
        int best = -1;
        for (int set = (1 << land.lanes.size()) - 1; set >= 0; set--) {
            World w = now.copy();
            for (int lane = 0; lane < land.lanes.size(); lane++) {
                if ((set >> lane & 1) == 1) {
                    w.send(land.lanes.get(lane).a, land.lanes.get(lane).b);
                }
            }
            if ((best < 0 || Integer.bitCount(set) <= Integer.bitCount(best)) && w.darkTimes() == 0) {
                best = set;
            }
        }
        return best;
    }

    int alarm() {
        World w = now.copy();
        w.minute();
        return litBits(now) & ~w.lanesNow;
    }

    private static int litBits(World w) {
        int bits = 0;
        for (int i = 0; i < w.lit.length; i++) {
            bits += w.lit[i] > 0 ? 1 << i : 0;
        }
        return bits;
    }

    int blind() {
        int bits = (1 << land.lanes.size()) - 1;
        List<World> all = now.course();
        for (World w : all.subList(1, all.size())) {
            bits &= ~w.lanesNow;
        }
        return bits;
    }

    int meet(int a, int b) {
        if (isMan(a) && isMan(b) && a != b) {
            List<World> all = now.course();
            for (int i = 0; i < all.size(); i++) {
                World w = all.get(i);
                if (w.out(a) && w.out(b) && w.place[a] == w.place[b]) {
                    return i;
                }
            }
        }
        return -1;
    }

    int thief() {
        int best = -1;
        int most = -1;
        List<World> all = now.course();
        for (int man = 0; man < land.men.size(); man++) {
            int when = home(man);
            if (when > 0 && all.get(when).burning() > most) {
                most = all.get(when).burning();
                best = man;
            }
        }
        return best;
    }

    boolean watch(int lane, int minutes, boolean burnt) {
        if (!isLane(lane) || minutes < 0 || minutes > 30 || watched.size() == 6) {
            return false;
        }
        watched.add(new int[] {lane, minutes, burnt ? 1 : 0});
        return true;
    }

    private World only(int set) {
        World w = now.copy();
        for (int man = 0; man < land.men.size(); man++) {
            if ((set >> man & 1) == 0) {
                w.home(new int[] {man});
            }
        }
        return w;
    }

    private List<Integer> fitting() {
        List<Integer> sets = new ArrayList<>();
        for (int set = 0; set < 1 << land.men.size(); set++) {
            boolean fits = (set & count(4)) == 0;
            for (int[] seen : watched) {
                fits = fits && only(set).behind(seen[1]).lit[seen[0]] > 0 == (seen[2] == 1);
            }
            if (fits) {
                sets.add(set);
            }
        }
        return sets;
    }

    int sets(int what) {
        List<Integer> sets = fitting();
        if (what == 0) {
            return sets.size();
        }
        if (what < 0 || what > 2 || sets.isEmpty()) {
            return -1;
        }
        return what == 1 ? sets.stream().reduce(-1, (a, b) -> a & b) : sets.stream().reduce(0, (a, b) -> a | b);
    }

    int look(int minutes) {
        if (minutes < 0 || minutes > 30) {
            return -1;
        }
        List<Integer> sets = fitting();
        int best = -1;
        int least = sets.size();
        for (int lane = 0; lane < land.lanes.size(); lane++) {
            int burn = 0;
            for (int set : sets) {
                burn += only(set).behind(minutes).lit[lane] > 0 ? 1 : 0;
            }
            if (Math.max(burn, sets.size() - burn) < least) {
                least = Math.max(burn, sets.size() - burn);
                best = lane;
            }
        }
        return best;
    }

    int oil() {
        return now.oil();
    }

    int share(int man) {
        if (!isMan(man)) {
            throw new NoSuchElementException();
        }
        World w = now.copy();
        w.home(new int[] {man});
        return now.oil() - w.oil();
    }

    int longer(int minutes) {
        if (minutes < 0 || minutes > 9) {
            return -1;
        }
        World w = now.copy();
        w.more = minutes;
        return w.darkTimes();
    }

    int nights(int seed, int many, int what) {
        if (seed < 0 || seed > 9999 || many < 1 || many > 20 || what < 0 || what > 2) {
            return -1;
        }
        java.math.BigInteger g = java.math.BigInteger.valueOf(seed);
        int[] sums = new int[3];
        for (int i = 0; i < many; i++) {
            World w = new World(land);
            for (int man = 0; man < land.men.size(); man++) {
                g = g.multiply(java.math.BigInteger.valueOf(1103515245)).add(java.math.BigInteger.valueOf(12345))
                    .mod(java.math.BigInteger.ONE.shiftLeft(31));
                w.since[man] = g.intValue() / 65536 % 31;
            }
            int dark = w.darkTimes();
            sums[0] += dark;
            sums[1] = Math.max(sums[1], dark);
            sums[2] += w.oil();
        }
        return sums[what];
    }

    boolean mark(int mark, boolean back) {
        if (mark < 0 || mark > 3 || back && marks[mark] == null) {
            return false;
        }
        if (back) {
            now = marks[mark].world.copy();
            lines = new ArrayList<>(marks[mark].lines);
            watched = new ArrayList<>(marks[mark].watched);
            past.clear();
        } else {
            marks[mark] = new Marked();
            marks[mark].world = now.copy();
            marks[mark].lines = new ArrayList<>(lines);
            marks[mark].watched = new ArrayList<>(watched);
        }
        return true;
    }

    int count(int what) {
        int home = 0;
        for (int i = 0; i < land.men.size(); i++) {
            home += now.home(i) ? 1 << i : 0;
        }
        int[] all = {land.places.size(), land.lanes.size(), land.men.size(), now.minute, home, litBits(now), now.paid,
            now.darks, lines.size(), watched.size(), past.size(), tape.length()};
        return what >= 0 && what < all.length ? all[what] : -1;
    }
}
