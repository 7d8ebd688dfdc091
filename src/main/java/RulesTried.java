import java.util.Arrays;

/** A bench on which rules of who may do what are tried before they hold; ../shared/DOC.md has its promises. */
public final class RulesTried {
    public static final int NONE = -1;

    private static final int NO_SUCH = -2;
    private static final int SLOTS = 4;
    private static final int IMAGES = 3;
    private static final int LINES = 12;
    private static final int CHANGES = 3;
    private static final int TAPE_BYTES = 600;
    private static final int FED_BYTES = 20;
    private static final int PEOPLE = 16;
    private static final int THINGS = 16;
    private static final int ASKS = 200;
    private static final int ACTS = 4;
    private static final int HOURS = 24;
    private static final int TOP_GROUPS = 255;
    private static final int TOP_KIND = 7;
    private static final int TOP_LEVEL = 5;

    private static final int ANY_ACT = 4;
    private static final int BY_FIRST = 0;
    private static final int BY_LAST = 1;
    private static final int BY_STOP = 2;
    private static final int BY_LET = 3;

    private final Tape tape;
    private final Reader reader;
    private final Told told;
    private final Told[] images;
    private final Trial trial;
    private final Search search;
    private Mend mendAtHand;
    private int faultFound;
    private int faultPlace;

    public RulesTried() {
        tape = new Tape();
        reader = new Reader(tape);
        told = new Told();
        images = new Told[IMAGES];
        trial = new Trial();
        search = new Search();
        mendAtHand = null;
        faultFound = 0;
        faultPlace = NONE;
    }

    public int feed(int a, int b, int c, int d, int e) {
        if (tape.length > TAPE_BYTES - FED_BYTES) {
            return NONE;
        }
        tape.put(a);
        tape.put(b);
        tape.put(c);
        tape.put(d);
        tape.put(e);
        return tape.length;
    }

    public int end(int n) {
        if (n < 0 || n > tape.length) {
            return NONE;
        }
        tape.length = n;
        return n;
    }

    public int rules(int slot) {
        if (!isIn(slot, SLOTS)) {
            return NO_SUCH;
        }
        Rules found = reader.read();
        tape.length = 0;
        faultFound = reader.fault;
        faultPlace = reader.faultPlace;
        if (found == null) {
            return NONE;
        }
        putRules(slot, found);
        return found.lines.length;
    }

    public int fault(int what) {
        if (what == 0) {
            return faultFound;
        }
        return what == 1 ? faultPlace : NONE;
    }

    public int person(int groups, int clearance) {
        if (!canBePerson(groups, clearance)) {
            return NONE;
        }
        int number = told.people.addRow();
        told.people.set(number, Told.GROUPS, groups);
        told.people.set(number, Told.CLEARANCE, clearance);
        return number;
    }

    public int thing(int kind, int level, int owner) {
        if (!isUpTo(kind, TOP_KIND) || !isUpTo(level, TOP_LEVEL) || !told.people.has(owner)) {
            return NONE;
        }
        int number = told.things.addRow();
        told.things.set(number, Told.KIND, kind);
        told.things.set(number, Told.LEVEL, level);
        told.things.set(number, Told.OWNER, owner);
        return number;
    }

    public boolean moves(int person, int groups, int clearance) {
        if (!told.people.has(person) || !canBePerson(groups, clearance)) {
            return false;
        }
        told.people.set(person, Told.GROUPS, groups);
        told.people.set(person, Told.CLEARANCE, clearance);
        return true;
    }

    public boolean gives(int thing, int owner, int level) {
        if (!told.things.has(thing) || !told.people.has(owner) || !isUpTo(level, TOP_LEVEL)) {
            return false;
        }
        told.things.set(thing, Told.OWNER, owner);
        told.things.set(thing, Told.LEVEL, level);
        return true;
    }

    public int tell(int k, int what) {
        if (what == 0 || what == 1) {
            return told.people.get(k, what);
        }
        return what >= 2 && what <= 4 ? told.things.get(k, what - 2) : NONE;
    }

    public int decide(int slot, int person, int act, int thing, int hour, boolean which) {
        Rules held = rulesIn(slot);
        if (held == null || !told.canBeAsked(person, act, thing, hour)) {
            return NO_SUCH;
        }
        trial.stand(told, person, act, thing, hour);
        if (which) {
            return trial.decider(held);
        }
        return trial.lets(held) ? 1 : 0;
    }

    public int ask(int person, int act, int thing, int hour) {
        if (!told.canBeAsked(person, act, thing, hour)) {
            return NONE;
        }
        int number = told.asks.addRow();
        told.asks.set(number, Told.PERSON, person);
        told.asks.set(number, Told.ACT, act);
        told.asks.set(number, Told.THING, thing);
        told.asks.set(number, Told.HOUR, hour);
        told.asks.set(number, Told.MARK, NONE);
        return number;
    }

    public boolean mark(int ask, int how) {
        if (!told.asks.has(ask) || how < NONE || how > 1) {
            return false;
        }
        told.asks.set(ask, Told.MARK, how);
        return true;
    }

    public int book(int ask, int what) {
        return told.asks.get(ask, what);
    }

    public int tried(int slot) {
        Rules held = rulesIn(slot);
        if (held == null) {
            return NONE;
        }
        int let = 0;
        for (int i = 0; i < told.asks.size; i++) {
            trial.standAtAsk(told, i);
            if (trial.lets(held)) {
                let++;
            }
        }
        return let;
    }

    public int decides(int slot, int line) {
        Rules held = rulesIn(slot);
        if (held == null || held.lineAt(line) == null) {
            return NONE;
        }
        int decided = 0;
        for (int i = 0; i < told.asks.size; i++) {
            trial.standAtAsk(told, i);
            if (trial.decider(held) == line) {
                decided++;
            }
        }
        return decided;
    }

    public int lost(int a, int b, int k) {
        Rules letting = rulesIn(a);
        Rules stopping = rulesIn(b);
        if (letting == null || stopping == null || k < 0) {
            return NONE;
        }
        int ahead = 0;
        for (int i = 0; i < told.asks.size; i++) {
            trial.standAtAsk(told, i);
            if (trial.lets(letting) && !trial.lets(stopping)) {
                if (ahead == k) {
                    return i;
                }
                ahead++;
            }
        }
        return NONE;
    }

    public boolean idle(int slot, int line) {
        Rules held = rulesIn(slot);
        if (held == null || held.lineAt(line) == null) {
            return false;
        }
        int cases = told.cases();
        for (int i = 0; i < cases; i++) {
            trial.standAtCase(told, i);
            if (trial.hoursDecided(held, line) != 0) {
                return false;
            }
        }
        return true;
    }

    public int more(int a, int b) {
        Rules letting = rulesIn(a);
        Rules stopping = rulesIn(b);
        if (letting == null || stopping == null) {
            return NONE;
        }
        int found = 0;
        int cases = told.cases();
        for (int i = 0; i < cases; i++) {
            trial.standAtCase(told, i);
            found += Integer.bitCount(trial.hoursLet(letting) & ~trial.hoursLet(stopping));
        }
        return found;
    }

    public int unlike(int a, int b, int what) {
        Rules one = rulesIn(a);
        Rules other = rulesIn(b);
        if (one == null || other == null) {
            return NONE;
        }
        int cases = told.cases();
        for (int i = 0; i < cases; i++) {
            trial.standAtCase(told, i);
            int hours = trial.hoursLet(one) ^ trial.hoursLet(other);
            if (hours != 0) {
                return trial.toldAt(Integer.numberOfTrailingZeros(hours), what);
            }
        }
        return NONE;
    }

    public int mend(int slot) {
        Rules held = rulesIn(slot);
        if (held == null) {
            return NONE;
        }
        search.start(held);
        for (int i = 0; i < told.asks.size; i++) {
            int mark = told.asks.get(i, Told.MARK);
            if (mark != NONE) {
                trial.standAtAsk(told, i);
                search.want(trial.linesHeld(held), mark);
            }
        }
        int changes = search.fewest();
        if (changes != NONE) {
            mendAtHand = new Mend(slot, search.left, search.turned);
        }
        return changes;
    }

    public int change(int k, int what) {
        return mendAtHand == null ? NONE : mendAtHand.changeAt(k, what);
    }

    public int apply() {
        if (mendAtHand == null || !mendAtHand.fits) {
            return NONE;
        }
        Rules held = rulesIn(mendAtHand.slot);
        if (held == null) {
            return NONE;
        }
        Rules mended = held.changed(mendAtHand.left, mendAtHand.turned);
        putRules(mendAtHand.slot, mended);
        return mended.lines.length;
    }

    public int line(int slot, int line, int what) {
        Rules held = rulesIn(slot);
        Line found = held == null ? null : held.lineAt(line);
        return found == null ? NONE : found.part(what);
    }

    public int count(int what) {
        switch (what) {
            case 0:
                return told.people.size;
            case 1:
                return told.things.size;
            case 2:
                return told.asks.size;
            case 3:
                return told.marked();
            default:
                return countOfSlot(what);
        }
    }

    public boolean image(int k) {
        if (!isIn(k, IMAGES)) {
            return false;
        }
        if (images[k] == null) {
            images[k] = new Told();
        }
        images[k].copyFrom(told);
        return true;
    }

    public boolean again(int k) {
        if (!isIn(k, IMAGES) || images[k] == null) {
            return false;
        }
        told.copyFrom(images[k]);
        mendAtHand = null;
        return true;
    }

    private int countOfSlot(int what) {
        if (what < 4 || what > 11) {
            return NONE;
        }
        Rules held = rulesIn(what < 8 ? what - 4 : what - 8);
        if (held == null) {
            return NONE;
        }
        return what < 8 ? held.lines.length : held.how;
    }

    private Rules rulesIn(int slot) {
        return isIn(slot, SLOTS) ? told.slots[slot] : null;
    }

    private void putRules(int slot, Rules found) {
        if (!isIn(slot, SLOTS)) {
            return;
        }
        told.slots[slot] = found;
        // A MEND was made for the RULES that go now, so it may not be done to those that come, even if they read alike.
        if (mendAtHand != null && mendAtHand.slot == slot) {
            mendAtHand.fits = false;
        }
    }

    private static boolean canBePerson(int groups, int clearance) {
        return isUpTo(groups, TOP_GROUPS) && isUpTo(clearance, TOP_LEVEL);
    }

    private static boolean isIn(int number, int size) {
        return number >= 0 && number < size;
    }

    private static boolean isUpTo(int number, int top) {
        return number >= 0 && number <= top;
    }

    private static boolean hasBit(int set, int bit) {
        return (set >>> bit & 1) != 0;
    }

    /** The bytes of a text that is still being told. */
    private static final class Tape {
        private final int[] bytes;
        private int length;

        Tape() {
            bytes = new int[TAPE_BYTES];
            length = 0;
        }

        void put(int number) {
            for (int shift = 24; shift >= 0; shift -= 8) {
                if (length < bytes.length) {
                    bytes[length] = number >>> shift & 255;
                    length++;
                }
            }
        }

        int at(int place) {
            return place >= 0 && place < length && place < bytes.length ? bytes[place] : NONE;
        }
    }

    /**
     * The tape taken apart into tokens, all of them ahead of the reading: done token by token from within the reading,
     * the calls would stand too deep. A sign's kind is its own byte.
     */
    private static final class Tokens {
        static final int END = 0;
        static final int NUMBER = 1;
        static final int WRONG = 2;
        static final int SEMICOLON = ';';
        static final int OPEN = '(';
        static final int CLOSE = ')';
        static final int LESS = '<';
        static final int MORE = '>';

        // A word's kind is BY and how many words stand ahead of it here. Words between which a text chooses stand
        // together, in the order in which the document numbers them. Each ends with its blank.
        static final String WORDS =
            "by first last stop let all group one owner clear read write share drop any kind thing level when or and not hour groups ";
        static final int BY = 300;
        static final int FIRST = 301;
        static final int STOP = 303;
        static final int LET = 304;
        static final int ALL = 305;
        static final int OWNER = 308;
        static final int CLEAR = 309;
        static final int READ = 310;
        static final int ANY = 314;
        static final int KIND = 315;
        static final int LEVEL = 317;
        static final int WHEN = 318;
        static final int OR = 319;
        static final int AND = 320;
        static final int NOT = 321;
        static final int HOUR = 322;
        static final int GROUPS = 323;

        private static final int DIGITS = 3;

        private final Tape tape;
        private final int[] kinds;
        private final int[] numbers;
        private final int[] places;
        private int size;
        private int next;
        // Of the token at hand.
        private int kind;
        private int number;
        private int place;

        Tokens(Tape tape) {
            this.tape = tape;
            kinds = new int[TAPE_BYTES + 1];
            numbers = new int[TAPE_BYTES + 1];
            places = new int[TAPE_BYTES + 1];
            size = 0;
            next = 0;
            kind = END;
            number = 0;
            place = 0;
        }

        void takeApart() {
            size = 0;
            int behind = 0;
            for (int from = 0; from < tape.length; from++) {
                if (from >= behind && !isBlank(tape.at(from))) {
                    behind = addToken(from);
                }
            }
            add(END, 0, tape.length);
            next = 0;
            step();
        }

        void step() {
            if (next >= 0 && next < size && next < kinds.length) {
                kind = kinds[next];
                number = numbers[next];
                place = places[next];
                next++;
            }
        }

        private void add(int kindFound, int numberFound, int from) {
            if (isIn(size, kinds.length)) {
                kinds[size] = kindFound;
                numbers[size] = numberFound;
                places[size] = from;
                size++;
            }
        }

        /** The place behind the token that begins here. */
        private int addToken(int from) {
            int first = tape.at(from);
            int to = from + 1;
            if (isLetter(first)) {
                while (to < tape.length && isLetter(tape.at(to))) {
                    to++;
                }
                add(kindOfWord(from, to), 0, from);
            } else if (isDigit(first)) {
                while (to < tape.length && isDigit(tape.at(to))) {
                    to++;
                }
                addNumber(from, to);
            } else {
                add(isSign(first) ? first : WRONG, 0, from);
            }
            return to;
        }

        private void addNumber(int from, int to) {
            if (to - from > DIGITS) {
                add(WRONG, 0, from);
                return;
            }
            int found = 0;
            for (int i = from; i < to; i++) {
                found = found * 10 + tape.at(i) - '0';
            }
            add(NUMBER, found, from);
        }

        private int kindOfWord(int from, int to) {
            int found = BY;
            int compared = from;
            boolean alike = true;
            for (int i = 0; i < WORDS.length(); i++) {
                char sign = WORDS.charAt(i);
                if (sign != ' ') {
                    alike = alike && tape.at(compared) == sign;
                    compared++;
                } else if (alike && compared == to) {
                    return found;
                } else {
                    found++;
                    compared = from;
                    alike = true;
                }
            }
            return WRONG;
        }

        private static boolean isBlank(int sign) {
            return sign == ' ' || sign == '\n';
        }

        private static boolean isLetter(int sign) {
            return sign >= 'a' && sign <= 'z';
        }

        private static boolean isDigit(int sign) {
            return sign >= '0' && sign <= '9';
        }

        private static boolean isSign(int sign) {
            return sign == SEMICOLON || sign == OPEN || sign == CLOSE || sign == LESS || sign == '=' || sign == MORE;
        }
    }

    /** Reads the tape as RULES, or finds its first FAULT. */
    private static final class Reader {
        private static final int NO_TEXT = 1;
        private static final int NO_NUMBER = 2;
        private static final int NO_LINE = 3;
        private static final int OPEN_AT_MOST = 6;

        // The highest NUMBER behind each word of WHO and of WHAT; NONE: no NUMBER follows.
        private static final int[] TOP_OF_WHO = {NONE, 7, 15, NONE, 5};
        private static final int[] TOP_OF_WHAT = {NONE, 7, 15, 5};

        private final Tokens tokens;
        private final Line[] lines;
        private final int[] steps;
        private int lineCount;
        private int stepCount;
        private int fault;
        private int faultPlace;

        Reader(Tape tape) {
            tokens = new Tokens(tape);
            lines = new Line[LINES];
            steps = new int[TAPE_BYTES];
            lineCount = 0;
            stepCount = 0;
            fault = 0;
            faultPlace = NONE;
        }

        /** Null if there is a FAULT. */
        Rules read() {
            fault = 0;
            faultPlace = NONE;
            lineCount = 0;
            tokens.takeApart();
            int how = readHow();
            for (int i = 0; i < TAPE_BYTES && startsLine(); i++) {
                readLine();
            }
            if (tokens.kind != Tokens.END) {
                refuse();
            }
            return fault == 0 ? new Rules(how, linesRead()) : null;
        }

        private Line[] linesRead() {
            Line[] found = new Line[Math.max(0, lineCount)];
            for (int i = 0; i < lineCount && i < lines.length; i++) {
                found[i] = lines[i];
            }
            return found;
        }

        private int readHow() {
            if (!takes(Tokens.BY)) {
                return BY_FIRST;
            }
            int how = choice(Tokens.FIRST, Tokens.LET);
            needs(Tokens.SEMICOLON);
            return how;
        }

        private boolean startsLine() {
            return tokens.kind == Tokens.LET || tokens.kind == Tokens.STOP;
        }

        private void readLine() {
            if (lineCount == LINES) {
                note(NO_LINE);
            }
            boolean let = choice(Tokens.STOP, Tokens.LET) == 1;
            int who = choice(Tokens.ALL, Tokens.CLEAR);
            int whoNumber = numberBehind(TOP_OF_WHO, who);
            int act = choice(Tokens.READ, Tokens.ANY);
            int what = takes(Tokens.ALL) ? 0 : 1 + choice(Tokens.KIND, Tokens.LEVEL);
            int whatNumber = numberBehind(TOP_OF_WHAT, what);
            stepCount = 0;
            if (takes(Tokens.WHEN)) {
                readEither(1);
            }
            needs(Tokens.SEMICOLON);
            if (lineCount < LINES) {
                int[] when = Arrays.copyOf(steps, Math.max(0, stepCount));
                lines[lineCount] = new Line(let, who, whoNumber, act, what, whatNumber, when);
                lineCount++;
            }
        }

        private int numberBehind(int[] tops, int word) {
            int top = isIn(word, tops.length) ? tops[word] : NONE;
            if (top == NONE) {
                return 0;
            }
            if (tokens.kind != Tokens.NUMBER) {
                refuse();
                return 0;
            }
            if (tokens.number > top) {
                note(NO_NUMBER);
            }
            int number = tokens.number;
            tokens.step();
            return number;
        }

        private void readEither(int open) {
            if (open > OPEN_AT_MOST) {
                refuse();
                return;
            }
            for (int i = 0; i < TAPE_BYTES && (i == 0 || takes(Tokens.OR)); i++) {
                readBoth(open);
                if (i > 0) {
                    addStep(Line.EITHER, 0, 0);
                }
            }
        }

        private void readBoth(int open) {
            for (int i = 0; i < TAPE_BYTES && (i == 0 || takes(Tokens.AND)); i++) {
                boolean turned = takes(Tokens.NOT);
                readOne(open);
                if (turned) {
                    addStep(Line.TURN, 0, 0);
                }
                if (i > 0) {
                    addStep(Line.BOTH, 0, 0);
                }
            }
        }

        private void readOne(int open) {
            if (takes(Tokens.OPEN)) {
                readEither(open + 1);
                needs(Tokens.CLOSE);
            } else if (takes(Tokens.OWNER)) {
                addStep(Line.IS_OWNER, 0, 0);
            } else {
                int left = readTerm();
                int sign = choice(Tokens.LESS, Tokens.MORE);
                int right = readTerm();
                addStep(sign, left, right);
            }
        }

        private int readTerm() {
            int term = termAtHand();
            if (term == NONE) {
                refuse();
                return 0;
            }
            tokens.step();
            return term;
        }

        private int termAtHand() {
            switch (tokens.kind) {
                case Tokens.NUMBER:
                    return tokens.number;
                case Tokens.HOUR:
                    return Line.HOUR;
                case Tokens.CLEAR:
                    return Line.CLEARANCE;
                case Tokens.LEVEL:
                    return Line.LEVEL;
                case Tokens.KIND:
                    return Line.KIND;
                case Tokens.GROUPS:
                    return Line.GROUPS;
                default:
                    return NONE;
            }
        }

        private void addStep(int deed, int left, int right) {
            if (stepCount < steps.length) {
                steps[stepCount] = Line.step(deed, left, right);
                stepCount++;
            }
        }

        private boolean takes(int kind) {
            if (tokens.kind != kind) {
                return false;
            }
            tokens.step();
            return true;
        }

        private void needs(int kind) {
            if (tokens.kind == kind) {
                tokens.step();
            } else {
                refuse();
            }
        }

        private int choice(int from, int to) {
            int found = tokens.kind;
            if (found < from || found > to) {
                refuse();
                return 0;
            }
            tokens.step();
            return found - from;
        }

        private void refuse() {
            if (fault != NO_TEXT) {
                fault = NO_TEXT;
                faultPlace = tokens.place;
            }
            // Nothing takes a WRONG token, so the reading comes to its end here.
            tokens.kind = Tokens.WRONG;
        }

        private void note(int found) {
            if (fault == 0) {
                fault = found;
                faultPlace = tokens.place;
            }
        }
    }

    /** One LINE, with its 'when' as steps over a stack (none if it has no 'when'). */
    private static final class Line {
        static final int ALL = 0;
        static final int IN_GROUP = 1;
        static final int THAT_ONE = 2;
        static final int THE_OWNER = 3;
        static final int OF_KIND = 1;
        static final int THAT_THING = 2;

        // The first three stand as the signs < = > do among the bytes.
        static final int LESS = 0;
        static final int ALIKE = 1;
        static final int MORE = 2;
        static final int IS_OWNER = 3;
        static final int TURN = 4;
        static final int BOTH = 5;
        static final int EITHER = 6;

        // Terms up to 999 are NUMBERS.
        static final int HOUR = 1000;
        static final int CLEARANCE = 1001;
        static final int LEVEL = 1002;
        static final int KIND = 1003;
        static final int GROUPS = 1004;
        private static final int TERM_BITS = 11;
        private static final int TERM_MASK = 2047;

        private final boolean let;
        private final int who;
        private final int whoNumber;
        private final int act;
        private final int what;
        private final int whatNumber;
        private final int[] when;

        Line(boolean let, int who, int whoNumber, int act, int what, int whatNumber, int[] when) {
            this.let = let;
            this.who = who;
            this.whoNumber = whoNumber;
            this.act = act;
            this.what = what;
            this.whatNumber = whatNumber;
            this.when = when;
        }

        Line turned() {
            return new Line(!let, who, whoNumber, act, what, whatNumber, when);
        }

        int part(int asked) {
            switch (asked) {
                case 0:
                    return let ? 1 : 0;
                case 1:
                    return who;
                case 2:
                    return whoNumber;
                case 3:
                    return act;
                case 4:
                    return what;
                case 5:
                    return whatNumber;
                case 6:
                    return when.length > 0 ? 1 : 0;
                default:
                    return NONE;
            }
        }

        static int step(int deed, int left, int right) {
            return (deed << TERM_BITS | left) << TERM_BITS | right;
        }

        static int deedOf(int step) {
            return step >>> 2 * TERM_BITS;
        }

        static int leftOf(int step) {
            return step >>> TERM_BITS & TERM_MASK;
        }

        static int rightOf(int step) {
            return step & TERM_MASK;
        }
    }

    /** RULES, never changed once made: SLOTS and images may share them. */
    private static final class Rules {
        private final int how;
        private final Line[] lines;
        // The numbers of the LINES such that the first of them that HOLDS decides.
        private final int[] order;

        Rules(int how, Line[] lines) {
            this.how = how;
            this.lines = lines;
            order = orderOf(how, (1 << lines.length) - 1, letsOf(lines), lines.length);
        }

        Line lineAt(int number) {
            return isIn(number, lines.length) ? lines[number] : null;
        }

        /** The LINES that let, as a set of bits. */
        int letSet() {
            return letsOf(lines);
        }

        Rules changed(int left, int turned) {
            Line[] kept = new Line[Math.max(0, lines.length - Integer.bitCount(left))];
            int filled = 0;
            for (int i = 0; i < lines.length && filled < kept.length; i++) {
                if (!hasBit(left, i) && lines[i] != null) {
                    kept[filled] = hasBit(turned, i) ? lines[i].turned() : lines[i];
                    filled++;
                }
            }
            return new Rules(how, kept);
        }

        private static int[] orderOf(int how, int all, int lets, int size) {
            int[] row = new int[Math.max(0, size)];
            if (how == BY_LAST) {
                for (int i = 0; i < row.length; i++) {
                    row[i] = row.length - 1 - i;
                }
                return row;
            }
            int ahead = how == BY_FIRST ? all : how == BY_LET ? lets : all & ~lets;
            addLines(all & ~ahead, row, addLines(ahead, row, 0));
            return row;
        }

        /** How many are filled then. */
        private static int addLines(int set, int[] row, int filled) {
            int next = filled;
            for (int i = 0; i < LINES; i++) {
                if (hasBit(set, i) && isIn(next, row.length)) {
                    row[next] = i;
                    next++;
                }
            }
            return next;
        }

        private static int letsOf(Line[] lines) {
            int lets = 0;
            for (int i = 0; i < lines.length; i++) {
                if (lines[i] != null && lines[i].let) {
                    lets |= 1 << i;
                }
            }
            return lets;
        }
    }

    /** Rows of numbers under a limit; what is not there is NONE. */
    private static final class Table {
        private final int columns;
        private final int limit;
        private final int[] cells;
        private int size;

        Table(int columns, int limit) {
            this.columns = columns;
            this.limit = limit;
            cells = new int[Math.max(0, columns * limit)];
            size = 0;
        }

        boolean has(int row) {
            return isIn(row, size);
        }

        /** The new row's number, NONE if there are as many as there may be. */
        int addRow() {
            if (size >= limit) {
                return NONE;
            }
            size++;
            return size - 1;
        }

        int get(int row, int column) {
            return has(row) && isIn(column, columns) ? cells[row * columns + column] : NONE;
        }

        void set(int row, int column, int value) {
            if (has(row) && isIn(column, columns)) {
                cells[row * columns + column] = value;
            }
        }

        void copyFrom(Table other) {
            int used = other.size * other.columns;
            if (used <= cells.length && used <= other.cells.length) {
                System.arraycopy(other.cells, 0, cells, 0, used);
                size = other.size;
            }
        }
    }

    /** All that an image keeps: PEOPLE, THINGS, THE BOOK, and the RULES in the SLOTS. */
    private static final class Told {
        static final int GROUPS = 0;
        static final int CLEARANCE = 1;
        static final int KIND = 0;
        static final int LEVEL = 1;
        static final int OWNER = 2;
        static final int PERSON = 0;
        static final int ACT = 1;
        static final int THING = 2;
        static final int HOUR = 3;
        static final int MARK = 4;

        private final Table people;
        private final Table things;
        private final Table asks;
        private final Rules[] slots;

        Told() {
            people = new Table(2, PEOPLE);
            things = new Table(3, THINGS);
            asks = new Table(5, ASKS);
            slots = new Rules[SLOTS];
            Rules none = new Rules(BY_FIRST, new Line[0]);
            for (int i = 0; i < SLOTS; i++) {
                slots[i] = none;
            }
        }

        void copyFrom(Told other) {
            people.copyFrom(other.people);
            things.copyFrom(other.things);
            asks.copyFrom(other.asks);
            for (int i = 0; i < SLOTS; i++) {
                slots[i] = other.slots[i];
            }
        }

        boolean canBeAsked(int person, int act, int thing, int hour) {
            return people.has(person) && isIn(act, ACTS) && things.has(thing) && isIn(hour, HOURS);
        }

        int marked() {
            int found = 0;
            for (int i = 0; i < asks.size; i++) {
                if (asks.get(i, MARK) != NONE) {
                    found++;
                }
            }
            return found;
        }

        /** What COULD BE ASKED falls into so many cases, each of all HOURS. */
        int cases() {
            return people.size * ACTS * things.size;
        }
    }

    /**
     * Decides what is asked, one case (person, ACT, THING) at a time. A 'when' is worked out for all HOURS of a case
     * at once, as a set of 24 bits, since trying all that COULD BE ASKED hour by hour would cost 24 times as much.
     */
    private static final class Trial {
        private static final int ALL_HOURS = (1 << HOURS) - 1;
        private static final int STACK = 16;

        private final int[] stack;
        private int height;
        private int person;
        private int act;
        private int thing;
        private int hour;
        private int groups;
        private int groupCount;
        private int clearance;
        private int kind;
        private int level;
        private boolean owns;

        Trial() {
            stack = new int[STACK];
        }

        void stand(Told told, int person, int act, int thing, int hour) {
            this.person = person;
            this.act = act;
            this.thing = thing;
            this.hour = hour;
            groups = told.people.get(person, Told.GROUPS);
            groupCount = Integer.bitCount(groups);
            clearance = told.people.get(person, Told.CLEARANCE);
            kind = told.things.get(thing, Told.KIND);
            level = told.things.get(thing, Told.LEVEL);
            owns = told.things.get(thing, Told.OWNER) == person;
        }

        void standAtAsk(Told told, int ask) {
            Table asks = told.asks;
            stand(told, asks.get(ask, Told.PERSON), asks.get(ask, Told.ACT), asks.get(ask, Told.THING),
                asks.get(ask, Told.HOUR));
        }

        /** Cases are numbered as what COULD BE ASKED is ordered. */
        void standAtCase(Told told, int number) {
            int things = told.things.size;
            if (things > 0) {
                stand(told, number / things / ACTS, number / things % ACTS, number % things, 0);
            }
        }

        int toldAt(int hourFound, int what) {
            switch (what) {
                case 0:
                    return person;
                case 1:
                    return act;
                case 2:
                    return thing;
                case 3:
                    return hourFound;
                default:
                    return NONE;
            }
        }

        /** The LINE that decides, NONE if none HOLDS. */
        int decider(Rules rules) {
            for (int i = 0; i < rules.order.length; i++) {
                if (hasBit(hoursHeld(rules.lineAt(rules.order[i])), hour)) {
                    return rules.order[i];
                }
            }
            return NONE;
        }

        boolean lets(Rules rules) {
            Line line = rules.lineAt(decider(rules));
            return line != null && line.let;
        }

        /** The LINES that HOLD, as a set of bits. */
        int linesHeld(Rules rules) {
            int held = 0;
            for (int i = 0; i < rules.lines.length; i++) {
                if (hasBit(hoursHeld(rules.lines[i]), hour)) {
                    held |= 1 << i;
                }
            }
            return held;
        }

        int hoursLet(Rules rules) {
            int open = ALL_HOURS;
            int let = 0;
            for (int i = 0; i < rules.order.length && open != 0; i++) {
                Line line = rules.lineAt(rules.order[i]);
                int held = hoursHeld(line);
                if (line != null && line.let) {
                    let |= open & held;
                }
                open &= ~held;
            }
            return let;
        }

        int hoursDecided(Rules rules, int number) {
            int open = ALL_HOURS;
            for (int i = 0; i < rules.order.length && open != 0; i++) {
                int held = hoursHeld(rules.lineAt(rules.order[i]));
                if (rules.order[i] == number) {
                    return open & held;
                }
                open &= ~held;
            }
            return 0;
        }

        private int hoursHeld(Line line) {
            if (line == null || !holdsWho(line) || !holdsAct(line) || !holdsWhat(line)) {
                return 0;
            }
            return line.when.length == 0 ? ALL_HOURS : hoursOf(line.when);
        }

        private boolean holdsAct(Line line) {
            return line.act == ANY_ACT || line.act == act;
        }

        private boolean holdsWho(Line line) {
            switch (line.who) {
                case Line.ALL:
                    return true;
                case Line.IN_GROUP:
                    return hasBit(groups, line.whoNumber);
                case Line.THAT_ONE:
                    return person == line.whoNumber;
                case Line.THE_OWNER:
                    return owns;
                default:
                    return clearance >= line.whoNumber;
            }
        }

        private boolean holdsWhat(Line line) {
            switch (line.what) {
                case Line.ALL:
                    return true;
                case Line.OF_KIND:
                    return kind == line.whatNumber;
                case Line.THAT_THING:
                    return thing == line.whatNumber;
                default:
                    return level >= line.whatNumber;
            }
        }

        private int hoursOf(int[] when) {
            height = 0;
            for (int i = 0; i < when.length; i++) {
                push(hoursAfter(when[i]));
            }
            return pop();
        }

        private int hoursAfter(int step) {
            int left = Line.leftOf(step);
            int right = Line.rightOf(step);
            switch (Line.deedOf(step)) {
                case Line.LESS:
                    return hoursLess(left, right);
                case Line.ALIKE:
                    return ALL_HOURS & ~hoursLess(left, right) & ~hoursLess(right, left);
                case Line.MORE:
                    return hoursLess(right, left);
                case Line.IS_OWNER:
                    return owns ? ALL_HOURS : 0;
                case Line.TURN:
                    return ALL_HOURS & ~pop();
                case Line.BOTH:
                    return pop() & pop();
                default:
                    return pop() | pop();
            }
        }

        private int hoursLess(int left, int right) {
            if (left == Line.HOUR) {
                return right == Line.HOUR ? 0 : hoursBelow(value(right));
            }
            if (right == Line.HOUR) {
                return ALL_HOURS & ~hoursBelow(value(left) + 1);
            }
            return value(left) < value(right) ? ALL_HOURS : 0;
        }

        private static int hoursBelow(int bound) {
            return bound >= HOURS ? ALL_HOURS : (1 << bound) - 1;
        }

        private int value(int term) {
            switch (term) {
                case Line.CLEARANCE:
                    return clearance;
                case Line.LEVEL:
                    return level;
                case Line.KIND:
                    return kind;
                case Line.GROUPS:
                    return groupCount;
                default:
                    return term;
            }
        }

        private void push(int hours) {
            if (height < stack.length) {
                stack[height] = hours;
                height++;
            }
        }

        private int pop() {
            if (height < 1) {
                return 0;
            }
            height--;
            return stack[height];
        }
    }

    /** Looks for the MEND of some RULES; sets of LINES are bits. */
    private static final class Search {
        private final int[] held;
        private final int[] wanted;
        private int size;
        private int how;
        private int lineCount;
        private int lets;
        private int left;
        private int turned;

        Search() {
            held = new int[ASKS];
            wanted = new int[ASKS];
        }

        void start(Rules rules) {
            how = rules.how;
            lineCount = rules.lines.length;
            lets = rules.letSet();
            size = 0;
        }

        /** Asks for which the same LINES HOLD are decided alike, so one of those MARKED alike stands for all. */
        void want(int holding, int mark) {
            for (int i = 0; i < size && i < ASKS; i++) {
                if (held[i] == holding && wanted[i] == mark) {
                    return;
                }
            }
            if (size < ASKS) {
                held[size] = holding;
                wanted[size] = mark;
                size++;
            }
        }

        /** How many CHANGES do, which then stand in left and turned; NONE if no 3 do. */
        int fewest() {
            for (int changes = 0; changes <= CHANGES; changes++) {
                left = 0;
                turned = 0;
                if (finds(changes, 0)) {
                    return changes;
                }
            }
            return NONE;
        }

        // Left out is tried ahead of TURNED, and lower LINES ahead of higher ones: the first that does is the MEND.
        private boolean finds(int further, int from) {
            if (further <= 0) {
                return allAsMarked();
            }
            for (int i = from; i < lineCount; i++) {
                int bit = 1 << i;
                left |= bit;
                if (finds(further - 1, i + 1)) {
                    return true;
                }
                left &= ~bit;
                turned |= bit;
                if (finds(further - 1, i + 1)) {
                    return true;
                }
                turned &= ~bit;
            }
            return false;
        }

        private boolean allAsMarked() {
            int letsNow = lets ^ turned;
            for (int i = 0; i < size && i < ASKS; i++) {
                if (isLet(held[i] & ~left, letsNow) != (wanted[i] == 1)) {
                    return false;
                }
            }
            return true;
        }

        // The order of LINES that Trial walks, told in bits: this stands in the innermost of four loops.
        private boolean isLet(int holding, int letsNow) {
            switch (how) {
                case BY_LAST:
                    return (Integer.highestOneBit(holding) & letsNow) != 0;
                case BY_STOP:
                    return holding != 0 && (holding & ~letsNow) == 0;
                case BY_LET:
                    return (holding & letsNow) != 0;
                default:
                    return (Integer.lowestOneBit(holding) & letsNow) != 0;
            }
        }
    }

    /** A MEND at hand: the LINES left out and those TURNED, as bits, of the RULES that were in its SLOT then. */
    private static final class Mend {
        private final int slot;
        private final int left;
        private final int turned;
        private boolean fits;

        Mend(int slot, int left, int turned) {
            this.slot = slot;
            this.left = left;
            this.turned = turned;
            fits = true;
        }

        int changeAt(int k, int what) {
            int number = lineOf(k);
            if (number == NONE || what < 0 || what > 1) {
                return NONE;
            }
            if (what == 0) {
                return number;
            }
            return hasBit(turned, number) ? 1 : 0;
        }

        private int lineOf(int k) {
            int ahead = 0;
            for (int i = 0; i < LINES; i++) {
                if (hasBit(left | turned, i)) {
                    if (ahead == k) {
                        return i;
                    }
                    ahead++;
                }
            }
            return NONE;
        }
    }
}
