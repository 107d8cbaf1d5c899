import java.util.NoSuchElementException;

/** Lanes whose lamps burn for whoever walks behind. The document's numbered promises say what each call answers. */
public final class NextLight {
    /** None. */
    public static final int NONE = -1;

    private static final int OTHERS = -2;
    private static final int MOST_PLACES = 6;
    private static final int MOST_LANES = 8;
    private static final int MOST_WALKERS = 6;
    private static final int MOST_MARKS = 4;
    private static final int MOST_MINUTES = 99;
    private static final int MOST_WATCH_MINUTES = 30;
    private static final int MOST_LONGER = 9;
    private static final int MOST_PAY = 9;
    private static final int MOST_SEED = 9999;
    private static final int MOST_NIGHTS = 20;

    private final Tape tape;
    private final Reader reader;
    private final Night now;
    private final Past past;
    private final Watched watched;
    private final Mark[] marks;
    private final Ahead ahead;
    private Town town;
    private Town spareTown;
    private Lines lines;
    private Lines spareLines;

    /** Nothing: no TOWN, no EVENING, an empty TAPE. */
    public NextLight() {
        tape = new Tape();
        reader = new Reader(tape);
        now = new Night();
        past = new Past();
        watched = new Watched();
        marks = new Mark[MOST_MARKS];
        for (int i = 0; i < MOST_MARKS; i++) {
            marks[i] = new Mark();
        }
        ahead = new Ahead();
        town = new Town();
        spareTown = new Town();
        lines = new Lines();
        spareLines = new Lines();
    }

    public int feed(long a, long b, long c) {
        tape.addBytes(a);
        tape.addBytes(b);
        tape.addBytes(c);
        return tape.length;
    }

    public int town() {
        int fault = reader.readTown(spareTown);
        tape.length = 0;
        if (fault != 0) {
            return fault;
        }
        Town told = spareTown;
        spareTown = town;
        town = told;
        now.begin(town);
        lines.many = 0;
        watched.many = 0;
        past.forget();
        ahead.forget();
        for (int i = 0; i < marks.length; i++) {
            if (marks[i] != null) {
                marks[i].laid = false;
            }
        }
        return 0;
    }

    public int evening() {
        int fault = reader.readEvening(spareLines, town);
        tape.length = 0;
        if (fault != 0) {
            return fault;
        }
        Lines told = spareLines;
        spareLines = lines;
        lines = told;
        return 0;
    }

    public int lane(int lane, int what) {
        if (!town.hasLane(lane)) {
            return NONE;
        }
        switch (what) {
            case 0:
                return town.laneFrom[lane];
            case 1:
                return town.laneTo[lane];
            case 2:
                return town.told[lane];
            case 3:
                return now.lit[lane];
            default:
                return NONE;
        }
    }

    public int walker(int walker, int what) {
        if (!town.hasWalker(walker)) {
            return NONE;
        }
        switch (what) {
            case 0:
                return town.kinds[walker];
            case 1:
                return now.placeOf(town, walker);
            case 2:
                return now.goals[walker];
            case 3:
                return now.since[walker];
            case 4:
                return now.isHome(town, walker) ? 1 : 0;
            case 5:
                return now.isOut(town, walker) ? 1 : 0;
            default:
                return NONE;
        }
    }

    public int way(int from, int to) {
        return town.lanesOfWay(from, to);
    }

    public int next(int walker) {
        return town.hasWalker(walker) ? now.laneAhead(town, walker) : NONE;
    }

    public int minute() {
        keepPast();
        now.pass(town, 0);
        return Integer.bitCount(now.inDark);
    }

    public int send(int from, int to) {
        int lane = town.laneBetween(from, to);
        if (!town.hasLane(lane)) {
            return NONE;
        }
        keepPast();
        now.sendBoy(town, lane);
        return now.lit[lane];
    }

    public int waits(int walker) {
        if (!town.hasWalker(walker) || now.isHome(town, walker)) {
            return NONE;
        }
        keepPast();
        now.putOff(walker);
        return now.since[walker];
    }

    public boolean back(int walker) {
        if (!town.hasWalker(walker) || !now.canTurn(town, walker)) {
            return false;
        }
        keepPast();
        now.turn(town, walker);
        return true;
    }

    public boolean undo() {
        if (!past.bringBack(now)) {
            return false;
        }
        ahead.forget();
        return true;
    }

    public int judged(int what) {
        if (what < 0 || what > 2) {
            return OTHERS;
        }
        return ahead.judge(town, lines, what);
    }

    public int darks(int walker) {
        return town.hasWalker(walker) ? ahead.darkTimesOf(town, now, walker) : NONE;
    }

    public int home(int walker) {
        return town.hasWalker(walker) ? ahead.minutesTillHome(town, now, walker) : NONE;
    }

    public int glow() {
        return ahead.brightest(town, now);
    }

    public int burns(int lane, int minutes) {
        if (!town.hasLane(lane) || minutes < 0 || minutes > MOST_MINUTES) {
            return NONE;
        }
        return ahead.litBehind(town, now, lane, minutes);
    }

    public int delay(int walker) {
        if (walker != NONE && !town.hasWalker(walker)) {
            return OTHERS;
        }
        ahead.findDelays(town, now);
        return walker == NONE ? ahead.delayDark : ahead.delays[walker];
    }

    public int boys() {
        return ahead.fewestBoys(town, now);
    }

    public int alarm() {
        int walked = 0;
        for (int walker = 0; walker < town.walkers; walker++) {
            int lane = now.laneAhead(town, walker);
            if (lane != NONE) {
                walked |= 1 << lane;
            }
        }
        return now.litBits(town) & ~walked;
    }

    public int blind() {
        return ahead.neverWalked(town, now);
    }

    public int meet(int walker, int other) {
        if (walker == other || !town.hasWalker(walker) || !town.hasWalker(other)) {
            return NONE;
        }
        return ahead.minutesTillMet(town, now, walker, other);
    }

    public int thief() {
        return ahead.bestFollowed(town, now);
    }

    public boolean watch(int lane, int minutes, boolean burnt) {
        if (!town.hasLane(lane) || minutes < 0 || minutes > MOST_WATCH_MINUTES) {
            return false;
        }
        return watched.add(lane, minutes, burnt);
    }

    public int sets(int what) {
        if (what < 0 || what > 2) {
            return NONE;
        }
        return ahead.fittingSets(town, now, watched, what);
    }

    public int look(int minutes) {
        if (minutes < 0 || minutes > MOST_WATCH_MINUTES) {
            return NONE;
        }
        return ahead.laneToWatch(town, now, watched, minutes);
    }

    public int oil() {
        return ahead.oilWithout(town, now, NONE);
    }

    public int share(int walker) throws NoSuchElementException {
        if (!town.hasWalker(walker)) {
            throw new NoSuchElementException("no such walker");
        }
        return ahead.oilWithout(town, now, NONE) - ahead.oilWithout(town, now, walker);
    }

    public int longer(int minutes) {
        if (minutes < 0 || minutes > MOST_LONGER) {
            return NONE;
        }
        return ahead.darkTimesIfLonger(town, now, minutes);
    }

    public int rests(int both, int loses, int gets, int what) throws NoSuchElementException {
        if (!isPay(both) || !isPay(loses) || !isPay(gets) || what < NONE) {
            throw new NoSuchElementException("no such door");
        }
        int found = 0;
        for (int choices = 0; choices < 4; choices++) {
            if (isRest(both, loses, gets, choices)) {
                if (found == what) {
                    return choices;
                }
                found++;
            }
        }
        if (what != NONE) {
            throw new NoSuchElementException("no such rest");
        }
        return found;
    }

    public int nights(int seed, int many, int what) {
        if (seed < 0 || seed > MOST_SEED || many < 1 || many > MOST_NIGHTS || what < 0 || what > 2) {
            return NONE;
        }
        return ahead.drawnNights(town, seed, many, what);
    }

    public boolean mark(int mark, boolean back) {
        if (mark < 0 || mark >= marks.length || marks[mark] == null) {
            return false;
        }
        Mark chosen = marks[mark];
        if (!back) {
            chosen.lay(now, lines, watched);
            return true;
        }
        if (!chosen.laid) {
            return false;
        }
        now.copyFrom(chosen.night);
        lines.copyFrom(chosen.lines);
        watched.copyFrom(chosen.watched);
        past.forget();
        ahead.forget();
        return true;
    }

    public int count(int what) {
        switch (what) {
            case 0:
                return town.places;
            case 1:
                return town.lanes;
            case 2:
                return town.walkers;
            case 3:
                return now.time;
            case 4:
                return now.homeBits(town);
            case 5:
                return now.litBits(town);
            case 6:
                return now.paid;
            case 7:
                return now.darkTimes;
            case 8:
                return lines.many;
            case 9:
                return watched.many;
            case 10:
                return past.many;
            case 11:
                return tape.length;
            default:
                return NONE;
        }
    }

    private void keepPast() {
        past.keep(now);
        ahead.forget();
    }

    private static boolean isPay(int pay) {
        return pay >= 0 && pay <= MOST_PAY;
    }

    /** choices: 2 * the first one's + the other one's, 1 goes. */
    private static boolean isRest(int both, int loses, int gets, int choices) {
        int first = choices >> 1;
        int second = choices & 1;
        return gain(both, loses, gets, first, second) >= gain(both, loses, gets, 1 - first, second)
            && gain(both, loses, gets, second, first) >= gain(both, loses, gets, 1 - second, first);
    }

    private static int gain(int both, int loses, int gets, int own, int others) {
        if (own == 1) {
            return others == 1 ? both : -loses;
        }
        return others == 1 ? gets : 0;
    }

    /** The signs fed and not yet read. */
    private static final class Tape {
        static final int MOST = 1000;

        final byte[] signs = new byte[MOST];
        int length;

        void addBytes(long eight) {
            for (int shift = 56; shift >= 0; shift -= 8) {
                int sign = (int) (eight >>> shift & 255);
                boolean taken = sign == 10 || sign >= 32 && sign <= 126;
                if (taken && length < MOST) {
                    signs[length] = (byte) sign;
                    length++;
                }
            }
        }
    }

    /** The TOKENS of the TAPE, one at a time. */
    private static final class Tokens {
        static final int NO_TOKEN = 0;
        static final int END = 1;
        static final int WORD = 2;
        static final int NUMBER = 3;
        static final int SIGN = 4;
        static final int MOST_LETTERS = 8;
        static final int MOST_DIGITS = 4;

        static final int PLACE = 0;
        static final int LANE = 1;
        static final int BURNS = 2;
        static final int WALKER = 3;
        static final int FROM = 4;
        static final int TO = 5;
        static final int AT = 6;
        static final int BOY = 7;
        static final int MINUTE = 8;
        static final int SEND = 9;
        static final int WAIT = 10;
        static final int BACK = 11;
        static final int PLAIN = 12;
        static final int DRUNK = 15;
        static final int NOT = 16;
        static final int AND = 17;
        static final int OR = 18;
        static final int TOLD = 19;
        static final int LATE = 22;
        /** By the numbers above; those before told can be no NAME. */
        static final String WORDS = "place lane burns walker from to at boy minute send wait back plain lamp blind drunk not and or told left feet late ";
        static final int MOST_WORDS = 23;
        static final String SIGNS = "()<=+-*;";

        final Tape tape;
        final long[] words = new long[MOST_WORDS];
        int kind;
        int start;
        int end;
        /** A WORD's letters, 5 bits each: no two WORDS are alike in it. */
        long letters;
        /** A WORD's number in WORDS or NONE, a NUMBER's value, a sign. */
        int value;

        Tokens(Tape tape) {
            this.tape = tape;
            int word = 0;
            for (int i = 0; i < WORDS.length() && word < MOST_WORDS; i++) {
                if (WORDS.charAt(i) == ' ') {
                    word++;
                } else {
                    words[word] = words[word] << 5 | (WORDS.charAt(i) - 'a' + 1);
                }
            }
        }

        void restart() {
            end = 0;
            advance();
        }

        void advance() {
            start = end;
            while (start < tape.length && (tape.signs[start] == 10 || tape.signs[start] == 32)) {
                start++;
            }
            end = start;
            if (start >= tape.length) {
                kind = END;
                return;
            }
            int sign = tape.signs[start];
            if (sign >= 'a' && sign <= 'z') {
                takeWord();
            } else if (sign >= '0' && sign <= '9') {
                takeNumber();
            } else {
                end = start + 1;
                kind = SIGNS.indexOf((char) sign) >= 0 ? SIGN : NO_TOKEN;
                value = sign;
            }
        }

        boolean isWord(int word) {
            return kind == WORD && value == word;
        }

        boolean isSign(char sign) {
            return kind == SIGN && value == sign;
        }

        boolean isName() {
            return kind == WORD && (value == NONE || value >= TOLD);
        }

        private void takeWord() {
            letters = 0;
            while (end < tape.length && tape.signs[end] >= 'a' && tape.signs[end] <= 'z') {
                letters = letters << 5 | (tape.signs[end] - 'a' + 1);
                end++;
            }
            kind = end - start <= MOST_LETTERS ? WORD : NO_TOKEN;
            value = NONE;
            for (int i = 0; i < MOST_WORDS; i++) {
                if (words[i] == letters) {
                    value = i;
                }
            }
        }

        private void takeNumber() {
            value = 0;
            while (end < tape.length && tape.signs[end] >= '0' && tape.signs[end] <= '9') {
                value = value * 10 + tape.signs[end] - '0';
                end++;
            }
            kind = end - start <= MOST_DIGITS ? NUMBER : NO_TOKEN;
        }
    }

    /** Reads a TOWN or an EVENING; what it fills counts only without a FAULT. */
    private static final class Reader {
        static final int MISPLACED = 1;
        static final int UNKNOWN = 2;
        static final int TOLD_ALREADY = 3;
        static final int OUT_OF_RANGE = 4;
        static final int TOO_MANY = 5;
        static final int MOST_WITHIN = 5;
        static final int MOST_TOLD = 20;
        static final int MOST_AT = 30;
        static final int MOST_COST = 99;
        static final int PART_LEVEL = 4;
        static final int TEST_LEVEL = 1;

        final Tokens tokens;
        int fault;

        Reader(Tape tape) {
            tokens = new Tokens(tape);
        }

        int readTown(Town town) {
            town.empty();
            fault = 0;
            tokens.restart();
            for (int i = 0; i < Tape.MOST && fault == 0 && tokens.kind != Tokens.END; i++) {
                switch (tokens.kind == Tokens.WORD ? tokens.value : NONE) {
                    case Tokens.PLACE:
                        readPlace(town);
                        break;
                    case Tokens.LANE:
                        readLane(town);
                        break;
                    case Tokens.WALKER:
                        readWalker(town);
                        break;
                    case Tokens.BOY:
                        readBoy(town);
                        break;
                    case Tokens.BURNS:
                        readLaw(town);
                        break;
                    default:
                        wrong(MISPLACED);
                }
            }
            if (fault == 0) {
                town.findWays();
            }
            return fault;
        }

        int readEvening(Lines lines, Town town) {
            lines.many = 0;
            fault = 0;
            tokens.restart();
            for (int i = 0; i < Tape.MOST && fault == 0 && tokens.kind != Tokens.END; i++) {
                readEveningLine(lines, town);
            }
            return fault;
        }

        private boolean wrong(int kind) {
            fault = kind + 16 * tokens.start;
            return false;
        }

        private void readPlace(Town town) {
            if (town.places >= MOST_PLACES) {
                wrong(TOO_MANY);
                return;
            }
            tokens.advance();
            if (!isNewName(town)) {
                return;
            }
            long name = tokens.letters;
            tokens.advance();
            if (readSign(';')) {
                town.addPlace(name);
            }
        }

        private void readLane(Town town) {
            if (town.lanes >= MOST_LANES) {
                wrong(TOO_MANY);
                return;
            }
            tokens.advance();
            int from = readPlaceName(town);
            if (from == NONE) {
                return;
            }
            if (isPlaceName(town)) {
                int same = town.placeNamed(tokens.letters);
                if (same == from || town.laneBetween(from, same) != NONE) {
                    wrong(TOLD_ALREADY);
                    return;
                }
            }
            int to = readPlaceName(town);
            if (to == NONE || !readWord(Tokens.BURNS)) {
                return;
            }
            int told = readNumber(MOST_TOLD);
            if (told != NONE && readSign(';')) {
                town.addLane(from, to, told);
            }
        }

        private void readWalker(Town town) {
            if (town.walkers >= MOST_WALKERS) {
                wrong(TOO_MANY);
                return;
            }
            tokens.advance();
            if (!isNewName(town)) {
                return;
            }
            long name = tokens.letters;
            tokens.advance();
            int kind = readKind();
            if (kind == NONE || !readWord(Tokens.FROM)) {
                return;
            }
            int from = readPlaceName(town);
            if (from == NONE || !readWord(Tokens.TO)) {
                return;
            }
            int to = readPlaceName(town);
            if (to == NONE || !readWord(Tokens.AT)) {
                return;
            }
            int at = readNumber(MOST_AT);
            if (at != NONE && readSign(';')) {
                town.addWalker(name, kind, from, to, at);
            }
        }

        private void readBoy(Town town) {
            if (town.costTold) {
                wrong(TOLD_ALREADY);
                return;
            }
            tokens.advance();
            int cost = readNumber(MOST_COST);
            if (cost != NONE && readSign(';')) {
                town.cost = cost;
                town.costTold = true;
            }
        }

        private void readLaw(Town town) {
            if (town.law.length > 0) {
                wrong(TOLD_ALREADY);
                return;
            }
            tokens.advance();
            if (readLevel(town.law, 0, 0)) {
                readSign(';');
            }
        }

        /** Levels 0 to 3: and or, < =, + -, *; what binds looser is the level before. */
        private boolean readLevel(Law law, int level, int within) {
            if (level >= PART_LEVEL) {
                return readPart(law, within);
            }
            if (!readLevel(law, level + 1, within)) {
                return false;
            }
            for (int i = 0; i < Tape.MOST; i++) {
                int operation = operationHere(level);
                if (operation == NONE || level == TEST_LEVEL && i > 0) {
                    return true;
                }
                tokens.advance();
                if (!readLevel(law, level + 1, within)) {
                    return false;
                }
                law.add(operation);
            }
            return true;
        }

        private int operationHere(int level) {
            switch (level) {
                case 0:
                    return tokens.isWord(Tokens.AND) ? Law.AND : tokens.isWord(Tokens.OR) ? Law.OR : NONE;
                case TEST_LEVEL:
                    return tokens.isSign('<') ? Law.LESS : tokens.isSign('=') ? Law.EQUAL : NONE;
                case 2:
                    return tokens.isSign('+') ? Law.PLUS : tokens.isSign('-') ? Law.MINUS : NONE;
                default:
                    return tokens.isSign('*') ? Law.TIMES : NONE;
            }
        }

        private boolean readPart(Law law, int within) {
            boolean fact = tokens.kind == Tokens.WORD && tokens.value >= Tokens.TOLD && tokens.value <= Tokens.LATE;
            boolean not = tokens.isWord(Tokens.NOT);
            boolean bracket = tokens.isSign('(');
            int value = tokens.value;
            if (!fact && !not && !bracket && tokens.kind != Tokens.NUMBER) {
                return wrong(MISPLACED);
            }
            if (within >= MOST_WITHIN) {
                return wrong(TOO_MANY);
            }
            tokens.advance();
            if (bracket) {
                return readLevel(law, 0, within + 1) && readSign(')');
            }
            if (not) {
                if (!readPart(law, within + 1)) {
                    return false;
                }
                law.add(Law.NOT);
                return true;
            }
            law.add(fact ? Law.TOLD + value - Tokens.TOLD : Law.FIRST_NUMBER + value);
            return true;
        }

        private void readEveningLine(Lines lines, Town town) {
            int verb = tokens.kind == Tokens.WORD ? tokens.value : NONE;
            if (verb < Tokens.MINUTE || verb > Tokens.BACK) {
                wrong(MISPLACED);
                return;
            }
            if (lines.many >= Lines.MOST) {
                wrong(TOO_MANY);
                return;
            }
            tokens.advance();
            int first = NONE;
            int second = NONE;
            if (verb == Tokens.SEND) {
                first = readPlaceName(town);
                if (first == NONE) {
                    return;
                }
                if (isPlaceName(town) && town.placeNamed(tokens.letters) == first) {
                    wrong(TOLD_ALREADY);
                    return;
                }
                second = readPlaceName(town);
                if (second == NONE) {
                    return;
                }
            } else if (verb != Tokens.MINUTE) {
                first = readWalkerName(town);
                if (first == NONE) {
                    return;
                }
            }
            if (readSign(';')) {
                lines.add(verb, first, second);
            }
        }

        private boolean isNewName(Town town) {
            if (!tokens.isName()) {
                return wrong(MISPLACED);
            }
            if (town.placeNamed(tokens.letters) != NONE || town.walkerNamed(tokens.letters) != NONE) {
                return wrong(TOLD_ALREADY);
            }
            return true;
        }

        private boolean isPlaceName(Town town) {
            return tokens.isName() && town.placeNamed(tokens.letters) != NONE;
        }

        private int readPlaceName(Town town) {
            return readTold(tokens.isName() ? town.placeNamed(tokens.letters) : NONE);
        }

        private int readWalkerName(Town town) {
            return readTold(tokens.isName() ? town.walkerNamed(tokens.letters) : NONE);
        }

        private int readTold(int number) {
            if (number == NONE) {
                wrong(tokens.isName() ? UNKNOWN : MISPLACED);
            } else {
                tokens.advance();
            }
            return number;
        }

        private int readKind() {
            if (tokens.kind != Tokens.WORD || tokens.value < Tokens.PLAIN || tokens.value > Tokens.DRUNK) {
                wrong(MISPLACED);
                return NONE;
            }
            int kind = tokens.value - Tokens.PLAIN;
            tokens.advance();
            return kind;
        }

        private int readNumber(int most) {
            if (tokens.kind != Tokens.NUMBER) {
                wrong(MISPLACED);
                return NONE;
            }
            if (tokens.value > most) {
                wrong(OUT_OF_RANGE);
                return NONE;
            }
            int number = tokens.value;
            tokens.advance();
            return number;
        }

        private boolean readWord(int word) {
            if (!tokens.isWord(word)) {
                return wrong(MISPLACED);
            }
            tokens.advance();
            return true;
        }

        private boolean readSign(char sign) {
            if (!tokens.isSign(sign)) {
                return wrong(MISPLACED);
            }
            tokens.advance();
            return true;
        }
    }

    /** The E of burns, its operations behind what they work on. */
    private static final class Law {
        static final int NOT = 0;
        static final int AND = 1;
        static final int OR = 2;
        static final int LESS = 3;
        static final int EQUAL = 4;
        static final int PLUS = 5;
        static final int MINUS = 6;
        static final int TIMES = 7;
        static final int TOLD = 8;
        static final int LEFT = 9;
        static final int FEET = 10;
        static final int LATE = 11;
        static final int FIRST_NUMBER = 12;
        static final int MOST_TELLS = 30;
        /** 4 operations may stand open in each of 5 E within one another. */
        static final int MOST_HELD = 32;

        final short[] steps = new short[Tape.MOST];
        final int[] held = new int[MOST_HELD];
        /** 0: there is no burns. */
        int length;

        void add(int step) {
            if (length < steps.length) {
                steps[length] = (short) step;
                length++;
            }
        }

        /** For how many minutes a LANE burns. */
        int tells(int told, int left, int feet, int late) {
            if (length == 0) {
                return Math.min(told, MOST_TELLS);
            }
            int many = 0;
            for (int i = 0; i < length; i++) {
                int step = steps[i];
                if (step >= TOLD && many < MOST_HELD) {
                    held[many] = step == TOLD ? told : step == LEFT ? left : step == FEET ? feet
                        : step == LATE ? late : step - FIRST_NUMBER;
                    many++;
                } else if (step == NOT && many >= 1) {
                    held[many - 1] = held[many - 1] == 0 ? 1 : 0;
                } else if (step < TOLD && many >= 2) {
                    many--;
                    held[many - 1] = joined(step, held[many - 1], held[many]);
                }
            }
            return Math.max(0, Math.min(held[0], MOST_TELLS));
        }

        private static int joined(int step, int a, int b) {
            switch (step) {
                case AND:
                    return a != 0 && b != 0 ? 1 : 0;
                case OR:
                    return a != 0 || b != 0 ? 1 : 0;
                case LESS:
                    return a < b ? 1 : 0;
                case EQUAL:
                    return a == b ? 1 : 0;
                case PLUS:
                    return a + b;
                case MINUS:
                    return a - b;
                default:
                    return a * b;
            }
        }
    }

    /** What is told of a TOWN, and its WAYS. */
    private static final class Town {
        static final int LAMP = 1;
        static final int BLIND = 2;
        static final int DRUNK = 3;
        static final int USUAL_COST = 3;
        static final int WAYS = MOST_PLACES * MOST_PLACES;

        int places;
        int lanes;
        int walkers;
        int cost = USUAL_COST;
        boolean costTold;
        final Law law = new Law();
        final long[] placeNames = new long[MOST_PLACES];
        final int[] laneFrom = new int[MOST_LANES];
        final int[] laneTo = new int[MOST_LANES];
        final int[] told = new int[MOST_LANES];
        final long[] walkerNames = new long[MOST_WALKERS];
        final int[] kinds = new int[MOST_WALKERS];
        final int[] froms = new int[MOST_WALKERS];
        final int[] tos = new int[MOST_WALKERS];
        final int[] ats = new int[MOST_WALKERS];
        /** Of the WAY from a PLACE to another one: how many LANES, and the first; NONE where none is. */
        final int[] wayLengths = new int[WAYS];
        final int[] firstLanes = new int[WAYS];

        void empty() {
            places = 0;
            lanes = 0;
            walkers = 0;
            cost = USUAL_COST;
            costTold = false;
            law.length = 0;
        }

        boolean hasPlace(int place) {
            return place >= 0 && place < places;
        }

        boolean hasLane(int lane) {
            return lane >= 0 && lane < lanes;
        }

        boolean hasWalker(int walker) {
            return walker >= 0 && walker < walkers;
        }

        void addPlace(long name) {
            if (places < MOST_PLACES) {
                placeNames[places] = name;
                places++;
            }
        }

        void addLane(int from, int to, int minutes) {
            if (lanes < MOST_LANES) {
                laneFrom[lanes] = from;
                laneTo[lanes] = to;
                told[lanes] = minutes;
                lanes++;
            }
        }

        void addWalker(long name, int kind, int from, int to, int at) {
            if (walkers < MOST_WALKERS) {
                walkerNames[walkers] = name;
                kinds[walkers] = kind;
                froms[walkers] = from;
                tos[walkers] = to;
                ats[walkers] = at;
                walkers++;
            }
        }

        int placeNamed(long name) {
            for (int i = 0; i < places; i++) {
                if (placeNames[i] == name) {
                    return i;
                }
            }
            return NONE;
        }

        int walkerNamed(long name) {
            for (int i = 0; i < walkers; i++) {
                if (walkerNames[i] == name) {
                    return i;
                }
            }
            return NONE;
        }

        int laneBetween(int a, int b) {
            for (int i = 0; i < lanes; i++) {
                if (laneFrom[i] == a && laneTo[i] == b || laneFrom[i] == b && laneTo[i] == a) {
                    return i;
                }
            }
            return NONE;
        }

        int otherEnd(int lane, int place) {
            if (!hasLane(lane)) {
                return place;
            }
            return laneFrom[lane] == place ? laneTo[lane] : laneFrom[lane];
        }

        int lanesOfWay(int from, int to) {
            return hasPlace(from) && hasPlace(to) ? wayLengths[from * MOST_PLACES + to] : NONE;
        }

        /** Asked most of all, so it looks at the PLACES by itself. */
        int firstLane(int from, int to) {
            boolean both = from >= 0 && from < places && to >= 0 && to < places;
            return both ? firstLanes[from * MOST_PLACES + to] : NONE;
        }

        void findWays() {
            for (int to = 0; to < places; to++) {
                for (int from = 0; from < places; from++) {
                    wayLengths[from * MOST_PLACES + to] = from == to ? 0 : NONE;
                    firstLanes[from * MOST_PLACES + to] = NONE;
                }
                for (int length = 1; length < places; length++) {
                    findWaysOfLength(length, to);
                }
            }
        }

        private void findWaysOfLength(int length, int to) {
            for (int from = 0; from < places; from++) {
                if (lanesOfWay(from, to) == NONE) {
                    int lane = laneNearer(from, to, length - 1);
                    if (lane != NONE) {
                        wayLengths[from * MOST_PLACES + to] = length;
                        firstLanes[from * MOST_PLACES + to] = lane;
                    }
                }
            }
        }

        /** The least PLACE next to this one decides, since of equal WAYS the one with the first PLACES counts. */
        private int laneNearer(int from, int to, int length) {
            for (int between = 0; between < places; between++) {
                if (lanesOfWay(between, to) == length) {
                    int lane = laneBetween(from, between);
                    if (lane != NONE) {
                        return lane;
                    }
                }
            }
            return NONE;
        }
    }

    /** The lines of an EVENING. */
    private static final class Lines {
        static final int MOST = 40;

        int many;
        final byte[] verbs = new byte[MOST];
        final byte[] firsts = new byte[MOST];
        final byte[] seconds = new byte[MOST];

        void add(int verb, int first, int second) {
            if (many < MOST) {
                verbs[many] = (byte) verb;
                firsts[many] = (byte) first;
                seconds[many] = (byte) second;
                many++;
            }
        }

        void copyFrom(Lines other) {
            many = other.many;
            System.arraycopy(other.verbs, 0, verbs, 0, MOST);
            System.arraycopy(other.firsts, 0, firsts, 0, MOST);
            System.arraycopy(other.seconds, 0, seconds, 0, MOST);
        }
    }

    /** How it is. */
    private static final class Night {
        /** A drunk goes along each LANE so often. */
        static final int DRUNK_TIMES = 3;

        int time;
        int paid;
        int darkTimes;
        /** For how many minutes each LANE burns yet. */
        final int[] lit = new int[MOST_LANES];
        /** The PLACE from which each WALKER takes the LANE that he goes along; for a drunk in between it stays. */
        final int[] bases = new int[MOST_WALKERS];
        final int[] goals = new int[MOST_WALKERS];
        final int[] since = new int[MOST_WALKERS];
        /** How often a drunk has gone along the LANE that he is at. */
        final int[] gone = new int[MOST_WALKERS];
        final int[] feet = new int[MOST_LANES];
        /** Of the last MINUTE: who walked in the DARK, and along which LANES one went, as bits. */
        int inDark;
        int walked;

        void begin(Town town) {
            time = 0;
            paid = 0;
            darkTimes = 0;
            for (int lane = 0; lane < MOST_LANES; lane++) {
                lit[lane] = 0;
            }
            for (int walker = 0; walker < town.walkers; walker++) {
                bases[walker] = town.froms[walker];
                goals[walker] = town.tos[walker];
                since[walker] = town.ats[walker];
                gone[walker] = 0;
            }
        }

        void copyFrom(Night other) {
            time = other.time;
            paid = other.paid;
            darkTimes = other.darkTimes;
            System.arraycopy(other.lit, 0, lit, 0, MOST_LANES);
            System.arraycopy(other.bases, 0, bases, 0, MOST_WALKERS);
            System.arraycopy(other.goals, 0, goals, 0, MOST_WALKERS);
            System.arraycopy(other.since, 0, since, 0, MOST_WALKERS);
            System.arraycopy(other.gone, 0, gone, 0, MOST_WALKERS);
        }

        boolean isHome(Town town, int walker) {
            return town.firstLane(bases[walker], goals[walker]) == NONE;
        }

        boolean isOut(Town town, int walker) {
            return time >= since[walker] && !isHome(town, walker);
        }

        boolean isAllHome(Town town) {
            for (int walker = 0; walker < town.walkers; walker++) {
                if (!isHome(town, walker)) {
                    return false;
                }
            }
            return true;
        }

        int homeBits(Town town) {
            int bits = 0;
            for (int walker = 0; walker < town.walkers; walker++) {
                if (isHome(town, walker)) {
                    bits |= 1 << walker;
                }
            }
            return bits;
        }

        int litBits(Town town) {
            int bits = 0;
            for (int lane = 0; lane < town.lanes; lane++) {
                if (lit[lane] > 0) {
                    bits |= 1 << lane;
                }
            }
            return bits;
        }

        int placeOf(Town town, int walker) {
            int base = bases[walker];
            return gone[walker] == 1 ? town.otherEnd(town.firstLane(base, goals[walker]), base) : base;
        }

        int laneAhead(Town town, int walker) {
            return time >= since[walker] ? town.firstLane(bases[walker], goals[walker]) : NONE;
        }

        /** A MINUTE; longer: by how many minutes told is more than told. */
        void pass(Town town, int longer) {
            inDark = 0;
            walked = 0;
            for (int lane = 0; lane < town.lanes; lane++) {
                feet[lane] = 0;
            }
            for (int walker = 0; walker < town.walkers; walker++) {
                int lane = laneAhead(town, walker);
                if (town.hasLane(lane)) {
                    goAlong(town, walker, lane);
                }
            }
            for (int lane = 0; lane < town.lanes; lane++) {
                if (lit[lane] > 0) {
                    lit[lane]--;
                }
                if (feet[lane] > 0) {
                    lightUp(town, lane, feet[lane], longer);
                }
            }
            time++;
            darkTimes += Integer.bitCount(inDark);
        }

        private void goAlong(Town town, int walker, int lane) {
            int kind = town.kinds[walker];
            feet[lane]++;
            walked |= 1 << lane;
            if (lit[lane] == 0 && kind != Town.LAMP && kind != Town.BLIND) {
                inDark |= 1 << walker;
            }
            gone[walker]++;
            if (kind != Town.DRUNK || gone[walker] >= DRUNK_TIMES) {
                gone[walker] = 0;
                bases[walker] = town.otherEnd(lane, bases[walker]);
            }
        }

        private void lightUp(Town town, int lane, int walking, int longer) {
            int minutes = town.law.tells(town.told[lane] + longer, lit[lane], walking, time);
            if (minutes > lit[lane]) {
                lit[lane] = minutes;
            }
        }

        void sendBoy(Town town, int lane) {
            lightUp(town, lane, 1, 0);
            paid += town.cost;
        }

        void putOff(int walker) {
            since[walker] = Math.max(since[walker], time) + 1;
        }

        boolean canTurn(Town town, int walker) {
            return town.kinds[walker] != Town.DRUNK && isOut(town, walker);
        }

        void turn(Town town, int walker) {
            goals[walker] = town.froms[walker];
        }

        /** As if he were HOME already. */
        void bringHome(int walker) {
            goals[walker] = bases[walker];
            gone[walker] = 0;
        }

        /** A line of an EVENING; false: it can't be. */
        boolean obey(Town town, int verb, int first, int second) {
            if (verb == Tokens.MINUTE) {
                pass(town, 0);
                return true;
            }
            if (verb == Tokens.SEND) {
                int lane = town.laneBetween(first, second);
                if (!town.hasLane(lane)) {
                    return false;
                }
                sendBoy(town, lane);
                return true;
            }
            if (!town.hasWalker(first)) {
                return false;
            }
            if (verb == Tokens.WAIT && !isHome(town, first)) {
                putOff(first);
                return true;
            }
            if (verb == Tokens.BACK && canTurn(town, first)) {
                turn(town, first);
                return true;
            }
            return false;
        }
    }

    /** How it was before each of the last MINUTES, SENDS, WAITS and BACKS. */
    private static final class Past {
        static final int MOST = 16;

        final Night[] nights = new Night[MOST];
        int many;
        int top;

        Past() {
            for (int i = 0; i < MOST; i++) {
                nights[i] = new Night();
            }
        }

        void forget() {
            many = 0;
        }

        void keep(Night now) {
            Night kept = nights[top & MOST - 1];
            if (kept != null) {
                kept.copyFrom(now);
                top = top + 1 & MOST - 1;
                many = Math.min(many + 1, MOST);
            }
        }

        boolean bringBack(Night now) {
            Night kept = nights[top - 1 & MOST - 1];
            if (many == 0 || kept == null) {
                return false;
            }
            now.copyFrom(kept);
            top = top - 1 & MOST - 1;
            many--;
            return true;
        }
    }

    /** What is WATCHED. */
    private static final class Watched {
        static final int MOST = 6;

        int many;
        final int[] lanes = new int[MOST];
        final int[] minutes = new int[MOST];
        final boolean[] burnt = new boolean[MOST];

        boolean add(int lane, int minute, boolean did) {
            if (many >= MOST) {
                return false;
            }
            lanes[many] = lane;
            minutes[many] = minute;
            burnt[many] = did;
            many++;
            return true;
        }

        void copyFrom(Watched other) {
            many = other.many;
            for (int i = 0; i < MOST; i++) {
                lanes[i] = other.lanes[i];
                minutes[i] = other.minutes[i];
                burnt[i] = other.burnt[i];
            }
        }

        int lastMinute() {
            int last = 0;
            for (int i = 0; i < many; i++) {
                last = Math.max(last, minutes[i]);
            }
            return last;
        }

        /** Whether what is WATCHED of this minute is so, if just these LANES burn in it. */
        boolean isSo(int minute, int litBits) {
            for (int i = 0; i < many; i++) {
                boolean burns = (litBits >> lanes[i] & 1) == 1;
                if (minutes[i] == minute && burns != burnt[i]) {
                    return false;
                }
            }
            return true;
        }
    }

    /** What a MARK holds. */
    private static final class Mark {
        boolean laid;
        final Night night = new Night();
        final Lines lines = new Lines();
        final Watched watched = new Watched();

        void lay(Night now, Lines nowLines, Watched nowWatched) {
            laid = true;
            night.copyFrom(now);
            lines.copyFrom(nowLines);
            watched.copyFrom(nowWatched);
        }
    }

    /** What comes of how it is, tried on a night of its own. */
    private static final class Ahead {
        static final int MOST_ROWS = 729;
        static final int DRAW_BELOW = 31;
        /** More often than it can be the DARK in 99 MINUTES. */
        static final int MORE_THAN_EVER = 1000000;

        final Night night = new Night();
        final int[] tried = new int[MOST_WALKERS];
        final int[] burning = new int[MOST_LANES];
        /** DELAY is dear and asked for WALKER by WALKER, so it is kept till how it is changes. */
        boolean delayKnown;
        int delayDark;
        int delayWaits;
        final int[] delays = new int[MOST_WALKERS];

        void forget() {
            delayKnown = false;
        }

        int judge(Town town, Lines lines, int what) {
            int firstLeftOut = NONE;
            int firstDark = NONE;
            night.begin(town);
            for (int i = 0; i < lines.many; i++) {
                int before = night.darkTimes;
                boolean done = night.obey(town, lines.verbs[i], lines.firsts[i], lines.seconds[i]);
                if (!done && firstLeftOut == NONE) {
                    firstLeftOut = i;
                }
                if (night.darkTimes > before && firstDark == NONE) {
                    firstDark = i;
                }
            }
            return what == 0 ? firstLeftOut : what == 1 ? firstDark : night.darkTimes;
        }

        int darkTimesOf(Town town, Night now, int walker) {
            int times = 0;
            night.copyFrom(now);
            for (int i = 0; i < MOST_MINUTES && !night.isAllHome(town); i++) {
                night.pass(town, 0);
                times += night.inDark >> walker & 1;
            }
            return times;
        }

        int minutesTillHome(Town town, Night now, int walker) {
            night.copyFrom(now);
            for (int i = 0; i < MOST_MINUTES && !night.isHome(town, walker); i++) {
                night.pass(town, 0);
            }
            return night.isHome(town, walker) ? night.time - now.time : NONE;
        }

        int brightest(Town town, Night now) {
            night.copyFrom(now);
            int most = Integer.bitCount(night.litBits(town));
            int when = 0;
            for (int i = 0; i < MOST_MINUTES && !night.isAllHome(town); i++) {
                night.pass(town, 0);
                int many = Integer.bitCount(night.litBits(town));
                if (many > most) {
                    most = many;
                    when = i + 1;
                }
            }
            return when;
        }

        /** Behind so many MINUTES, though all may be HOME sooner. */
        int litBehind(Town town, Night now, int lane, int minutes) {
            night.copyFrom(now);
            for (int i = 0; i < minutes; i++) {
                night.pass(town, 0);
            }
            return night.lit[lane];
        }

        void findDelays(Town town, Night now) {
            if (delayKnown) {
                return;
            }
            int home = now.homeBits(town);
            int rows = 1;
            for (int walker = 0; walker < town.walkers; walker++) {
                rows *= (home >> walker & 1) == 1 ? 1 : 3;
            }
            delayDark = MORE_THAN_EVER;
            delayWaits = 0;
            for (int row = 0; row < rows && row < MOST_ROWS; row++) {
                tryRow(town, now, home, row);
            }
            delayKnown = true;
        }

        private void tryRow(Town town, Night now, int home, int row) {
            int waiting = layRow(town, home, row);
            if (delayDark == 0 && waiting >= delayWaits) {
                return;
            }
            night.copyFrom(now);
            for (int walker = 0; walker < town.walkers; walker++) {
                for (int i = 0; i < tried[walker]; i++) {
                    night.putOff(walker);
                }
            }
            int dark = darkTimesOfAll(town, 0, delayDark);
            if (dark < delayDark || dark == delayDark && waiting < delayWaits) {
                delayDark = dark;
                delayWaits = waiting;
                for (int walker = 0; walker < town.walkers; walker++) {
                    delays[walker] = tried[walker];
                }
            }
        }

        /** The rows are numbered so that the first WALKER's waits count most; how many waits the row has. */
        private int layRow(Town town, int home, int row) {
            int rest = row;
            int waiting = 0;
            for (int walker = town.walkers - 1; walker >= 0; walker--) {
                tried[walker] = 0;
                if ((home >> walker & 1) == 0) {
                    tried[walker] = rest % 3;
                    rest /= 3;
                }
                waiting += tried[walker];
            }
            return waiting;
        }

        /** From the night as it is laid out; it leaves off when the DARK has come more often than enough. */
        private int darkTimesOfAll(Town town, int longer, int enough) {
            int before = night.darkTimes;
            for (int i = 0; i < MOST_MINUTES && !night.isAllHome(town); i++) {
                if (night.darkTimes - before > enough) {
                    break;
                }
                night.pass(town, longer);
            }
            return night.darkTimes - before;
        }

        int fewestBoys(Town town, Night now) {
            int best = NONE;
            for (int set = 0; set < 1 << town.lanes; set++) {
                boolean fewer = best == NONE || Integer.bitCount(set) < Integer.bitCount(best);
                if (fewer && isLightEnough(town, now, set)) {
                    best = set;
                }
            }
            return best;
        }

        private boolean isLightEnough(Town town, Night now, int set) {
            night.copyFrom(now);
            for (int lane = 0; lane < town.lanes; lane++) {
                if ((set >> lane & 1) == 1) {
                    night.sendBoy(town, lane);
                }
            }
            return darkTimesOfAll(town, 0, 0) == 0;
        }

        int neverWalked(Town town, Night now) {
            int walked = 0;
            night.copyFrom(now);
            for (int i = 0; i < MOST_MINUTES && !night.isAllHome(town); i++) {
                night.pass(town, 0);
                walked |= night.walked;
            }
            return (1 << town.lanes) - 1 & ~walked;
        }

        int minutesTillMet(Town town, Night now, int walker, int other) {
            night.copyFrom(now);
            for (int i = 0; i < MOST_MINUTES && !areTogether(town, walker, other); i++) {
                night.pass(town, 0);
            }
            return areTogether(town, walker, other) ? night.time - now.time : NONE;
        }

        private boolean areTogether(Town town, int walker, int other) {
            return night.isOut(town, walker) && night.isOut(town, other)
                && night.placeOf(town, walker) == night.placeOf(town, other);
        }

        int bestFollowed(Town town, Night now) {
            int best = NONE;
            int most = NONE;
            night.copyFrom(now);
            int home = night.homeBits(town);
            for (int i = 0; i < MOST_MINUTES && !night.isAllHome(town); i++) {
                night.pass(town, 0);
                int came = night.homeBits(town) & ~home;
                int many = Integer.bitCount(night.litBits(town));
                for (int walker = 0; walker < town.walkers; walker++) {
                    boolean better = many > most || many == most && walker < best;
                    if ((came >> walker & 1) == 1 && better) {
                        best = walker;
                        most = many;
                    }
                }
                home |= came;
            }
            return best;
        }

        int fittingSets(Town town, Night now, Watched watched, int what) {
            int all = ~now.homeBits(town) & (1 << town.walkers) - 1;
            int many = 0;
            int inAll = all;
            int inSome = 0;
            for (int set = 0; set <= all; set++) {
                if ((set & ~all) == 0 && litBySet(town, now, watched, set, 0) != NONE) {
                    many++;
                    inAll &= set;
                    inSome |= set;
                }
            }
            if (what == 0) {
                return many;
            }
            return many == 0 ? NONE : what == 1 ? inAll : inSome;
        }

        int laneToWatch(Town town, Night now, Watched watched, int minutes) {
            int all = ~now.homeBits(town) & (1 << town.walkers) - 1;
            int many = 0;
            for (int lane = 0; lane < town.lanes; lane++) {
                burning[lane] = 0;
            }
            for (int set = 0; set <= all; set++) {
                int lit = (set & ~all) == 0 ? litBySet(town, now, watched, set, minutes) : NONE;
                if (lit != NONE) {
                    many++;
                    for (int lane = 0; lane < town.lanes; lane++) {
                        burning[lane] += lit >> lane & 1;
                    }
                }
            }
            int best = NONE;
            int least = many;
            for (int lane = 0; lane < town.lanes; lane++) {
                int greater = Math.max(burning[lane], many - burning[lane]);
                if (greater < least) {
                    least = greater;
                    best = lane;
                }
            }
            return best;
        }

        /** The LANES that burn behind so many MINUTES if just the set is out; NONE if then not all WATCHED is so. */
        private int litBySet(Town town, Night now, Watched watched, int set, int minutes) {
            night.copyFrom(now);
            for (int walker = 0; walker < town.walkers; walker++) {
                if ((set >> walker & 1) == 0) {
                    night.bringHome(walker);
                }
            }
            int last = Math.max(minutes, watched.lastMinute());
            int lit = 0;
            for (int i = 0; i <= last; i++) {
                int litBits = night.litBits(town);
                if (!watched.isSo(i, litBits)) {
                    return NONE;
                }
                lit = i == minutes ? litBits : lit;
                night.pass(town, 0);
            }
            return lit;
        }

        /** OIL as if this WALKER were HOME; NONE: as it is. */
        int oilWithout(Town town, Night now, int walker) {
            night.copyFrom(now);
            if (walker != NONE) {
                night.bringHome(walker);
            }
            return oilToTheEnd(town);
        }

        private int oilToTheEnd(Town town) {
            int oil = 0;
            for (int i = 0; i < MOST_MINUTES && !night.isAllHome(town); i++) {
                night.pass(town, 0);
                oil += Integer.bitCount(night.litBits(town));
            }
            return oil;
        }

        int darkTimesIfLonger(Town town, Night now, int longer) {
            night.copyFrom(now);
            return darkTimesOfAll(town, longer, MORE_THAN_EVER);
        }

        int drawnNights(Town town, int seed, int many, int what) {
            long drawn = seed;
            int times = 0;
            int most = 0;
            int oil = 0;
            for (int i = 0; i < many; i++) {
                night.begin(town);
                for (int walker = 0; walker < town.walkers; walker++) {
                    drawn = (drawn * 1103515245L + 12345L) % 2147483648L;
                    night.since[walker] = (int) (drawn / 65536 % DRAW_BELOW);
                }
                oil += oilToTheEnd(town);
                times += night.darkTimes;
                most = Math.max(most, night.darkTimes);
            }
            return what == 0 ? times : what == 1 ? most : oil;
        }
    }
}
