import java.util.ArrayList;
import java.util.List;
import java.util.Set;

/**
 * The same promises written another way, as plainly as Java allows and with no care for cost: each ask is tried by
 * itself, and each CHANGE is done to a copy of the rules. RandomRunsTest holds the class against it.
 */
final class PlainBench {
    private static final class Fault extends Exception {
        private static final long serialVersionUID = 1L;
        final int place;

        Fault(int place) {
            this.place = place;
        }
    }

    private record Token(String text, int place) {
        boolean isNumber() {
            return text.matches("[0-9]{1,3}");
        }
    }

    private record Case(int hour, int clear, int level, int kind, int groups, boolean owner) {
    }

    private interface Test {
        boolean holds(Case c);
    }

    private interface Term {
        int of(Case c);
    }

    private record Line(boolean let, String who, int whoNumber, String act, String what, int whatNumber, Test when) {
        Line turned() {
            return new Line(!let, who, whoNumber, act, what, whatNumber, when);
        }
    }

    private record Rules(String by, List<Line> lines) {
    }

    private record Ask(int person, int act, int thing, int hour, int mark) {
        int part(int what) {
            return new int[] {person, act, thing, hour, mark}[what];
        }
    }

    private record Image(List<int[]> people, List<int[]> things, List<Ask> book, List<Rules> slots) {
    }

    private record Change(int line, boolean turn) {
    }

    private static final List<String> ACT_WORDS = List.of("read", "write", "share", "drop", "any");
    private static final List<String> WHO_WORDS = List.of("all", "group", "one", "owner", "clear");
    private static final List<String> WHAT_WORDS = List.of("all", "kind", "thing", "level");
    private static final List<String> BY_WORDS = List.of("first", "last", "stop", "let");

    private String tape = "";
    private int fault = 0;
    private int faultPlace = -1;
    private List<int[]> people = new ArrayList<>();
    private List<int[]> things = new ArrayList<>();
    private List<Ask> book = new ArrayList<>();
    private List<Rules> slots = new ArrayList<>();
    private final Image[] images = new Image[3];
    private List<Change> mend = null;
    private int mendSlot;
    private Rules mendRules;

    // The reading of one text.
    private List<Token> tokens;
    private int at;
    private int softFault;
    private int softPlace;

    PlainBench() {
        for (int i = 0; i < 4; i++) {
            slots.add(new Rules("first", List.of()));
        }
    }

    int feed(int... numbers) {
        if (tape.length() + 20 > 600) {
            return -1;
        }
        for (int n : numbers) {
            tape += "" + (char) (n >> 24 & 255) + (char) (n >> 16 & 255) + (char) (n >> 8 & 255) + (char) (n & 255);
        }
        return tape.length();
    }

    int end(int n) {
        if (n < 0 || n > tape.length()) {
            return -1;
        }
        tape = tape.substring(0, n);
        return n;
    }

    int rules(int slot) {
        if (slot < 0 || slot > 3) {
            return -2;
        }
        String text = tape;
        tape = "";
        try {
            Rules found = text(text);
            fault = softFault;
            faultPlace = softPlace;
            if (fault != 0) {
                return -1;
            }
            slots.set(slot, found);
            return found.lines.size();
        } catch (Fault f) {
            fault = 1;
            faultPlace = f.place;
            return -1;
        }
    }

    private static List<Token> split(String text) {
        List<Token> found = new ArrayList<>();
        int i = 0;
        while (i < text.length()) {
            String rest = text.substring(i);
            String token = rest.replaceFirst("(?s)^([a-z]+|[0-9]+|.).*", "$1");
            if (!token.equals(" ") && !token.equals("\n")) {
                found.add(new Token(token, i));
            }
            i += token.length();
        }
        found.add(new Token("", text.length()));
        return found;
    }

    private Token peek() {
        return tokens.get(at);
    }

    private boolean sees(String word) {
        return peek().text.equals(word);
    }

    private boolean takes(String word) {
        if (!sees(word)) {
            return false;
        }
        at++;
        return true;
    }

    private String oneOf(List<String> words) throws Fault {
        if (!words.contains(peek().text)) {
            throw new Fault(peek().place);
        }
        return tokens.get(at++).text;
    }

    private int number(int top) throws Fault {
        Token token = peek();
        if (!token.isNumber()) {
            throw new Fault(token.place);
        }
        at++;
        int value = Integer.parseInt(token.text);
        if (value > top) {
            soft(2, token.place);
        }
        return value;
    }

    private void soft(int kind, int place) {
        if (softFault == 0) {
            softFault = kind;
            softPlace = place;
        }
    }

    private Rules text(String text) throws Fault {
        tokens = split(text);
        at = 0;
        softFault = 0;
        softPlace = -1;
        String by = "first";
        if (takes("by")) {
            by = oneOf(BY_WORDS);
            oneOf(List.of(";"));
        }
        List<Line> lines = new ArrayList<>();
        while (sees("let") || sees("stop")) {
            if (lines.size() == 12) {
                soft(3, peek().place);
            }
            lines.add(line());
        }
        oneOf(List.of(""));
        return new Rules(by, List.copyOf(lines));
    }

    private Line line() throws Fault {
        boolean let = oneOf(List.of("let", "stop")).equals("let");
        String who = oneOf(WHO_WORDS);
        int whoNumber = who.equals("group") ? number(7) : who.equals("one") ? number(15) : who.equals("clear") ? number(5) : 0;
        String act = oneOf(ACT_WORDS);
        String what = oneOf(WHAT_WORDS);
        int whatNumber = what.equals("kind") ? number(7) : what.equals("thing") ? number(15) : what.equals("level") ? number(5) : 0;
        Test when = takes("when") ? either(1) : null;
        oneOf(List.of(";"));
        return new Line(let, who, whoNumber, act, what, whatNumber, when);
    }

    private Test either(int open) throws Fault {
        if (open == 7) {
            throw new Fault(peek().place);
        }
        Test all = both(open);
        while (takes("or")) {
            Test before = all;
            Test next = both(open);
            all = c -> before.holds(c) || next.holds(c);
        }
        return all;
    }

    private Test both(int open) throws Fault {
        Test all = not(open);
        while (takes("and")) {
            Test before = all;
            Test next = not(open);
            all = c -> before.holds(c) && next.holds(c);
        }
        return all;
    }

    private Test not(int open) throws Fault {
        if (takes("not")) {
            Test inner = simple(open);
            return c -> !inner.holds(c);
        }
        return simple(open);
    }

    private Test simple(int open) throws Fault {
        if (takes("(")) {
            Test inner = either(open + 1);
            oneOf(List.of(")"));
            return inner;
        }
        if (takes("owner")) {
            return c -> c.owner;
        }
        Term left = term();
        String sign = oneOf(List.of("<", ">", "="));
        Term right = term();
        return c -> {
            int difference = left.of(c) - right.of(c);
            return sign.equals("<") ? difference < 0 : sign.equals(">") ? difference > 0 : difference == 0;
        };
    }

    private Term term() throws Fault {
        if (peek().isNumber()) {
            int value = number(999);
            return c -> value;
        }
        String word = oneOf(List.of("hour", "clear", "level", "kind", "groups"));
        return c -> switch (word) {
            case "hour" -> c.hour;
            case "clear" -> c.clear;
            case "level" -> c.level;
            case "kind" -> c.kind;
            default -> c.groups;
        };
    }

    int fault(int what) {
        return what == 0 ? fault : what == 1 ? faultPlace : -1;
    }

    private static boolean within(int n, int size) {
        return n >= 0 && n < size;
    }

    int person(int groups, int clearance) {
        if (people.size() == 16 || !within(groups, 256) || !within(clearance, 6)) {
            return -1;
        }
        people.add(new int[] {groups, clearance});
        return people.size() - 1;
    }

    int thing(int kind, int level, int owner) {
        if (things.size() == 16 || !within(kind, 8) || !within(level, 6) || !within(owner, people.size())) {
            return -1;
        }
        things.add(new int[] {kind, level, owner});
        return things.size() - 1;
    }

    boolean moves(int person, int groups, int clearance) {
        if (!within(person, people.size()) || !within(groups, 256) || !within(clearance, 6)) {
            return false;
        }
        people.set(person, new int[] {groups, clearance});
        return true;
    }

    boolean gives(int thing, int owner, int level) {
        if (!within(thing, things.size()) || !within(owner, people.size()) || !within(level, 6)) {
            return false;
        }
        things.set(thing, new int[] {things.get(thing)[0], level, owner});
        return true;
    }

    int tell(int k, int what) {
        if (within(what, 2) && within(k, people.size())) {
            return people.get(k)[what];
        }
        return what >= 2 && what <= 4 && within(k, things.size()) ? things.get(k)[what - 2] : -1;
    }

    private boolean canBe(int person, int act, int thing, int hour) {
        return within(person, people.size()) && within(act, 4) && within(thing, things.size()) && within(hour, 24);
    }

    private boolean holds(Line line, Ask ask) {
        int[] person = people.get(ask.person);
        int[] thing = things.get(ask.thing);
        boolean owner = thing[2] == ask.person;
        boolean who = switch (line.who) {
            case "all" -> true;
            case "group" -> (person[0] & 1 << line.whoNumber) != 0;
            case "one" -> ask.person == line.whoNumber;
            case "owner" -> owner;
            default -> person[1] >= line.whoNumber;
        };
        boolean what = switch (line.what) {
            case "all" -> true;
            case "kind" -> thing[0] == line.whatNumber;
            case "thing" -> ask.thing == line.whatNumber;
            default -> thing[1] >= line.whatNumber;
        };
        boolean act = line.act.equals("any") || ACT_WORDS.indexOf(line.act) == ask.act;
        Case c = new Case(ask.hour, person[1], thing[1], thing[0], Integer.toString(person[0], 2).replace("0", "").length(), owner);
        return who && what && act && (line.when == null || line.when.holds(c));
    }

    private int decider(Rules rules, Ask ask) {
        List<Integer> holding = new ArrayList<>();
        List<Integer> lets = new ArrayList<>();
        List<Integer> stops = new ArrayList<>();
        for (int i = 0; i < rules.lines.size(); i++) {
            if (holds(rules.lines.get(i), ask)) {
                holding.add(i);
                (rules.lines.get(i).let ? lets : stops).add(i);
            }
        }
        if (holding.isEmpty()) {
            return -1;
        }
        return switch (rules.by) {
            case "first" -> holding.get(0);
            case "last" -> holding.get(holding.size() - 1);
            case "stop" -> stops.isEmpty() ? lets.get(0) : stops.get(0);
            default -> lets.isEmpty() ? stops.get(0) : lets.get(0);
        };
    }

    private boolean lets(Rules rules, Ask ask) {
        int line = decider(rules, ask);
        return line >= 0 && rules.lines.get(line).let;
    }

    int decide(int slot, int person, int act, int thing, int hour, boolean which) {
        if (!within(slot, 4) || !canBe(person, act, thing, hour)) {
            return -2;
        }
        Ask ask = new Ask(person, act, thing, hour, -1);
        return which ? decider(slots.get(slot), ask) : lets(slots.get(slot), ask) ? 1 : 0;
    }

    int ask(int person, int act, int thing, int hour) {
        if (!canBe(person, act, thing, hour) || book.size() == 200) {
            return -1;
        }
        book.add(new Ask(person, act, thing, hour, -1));
        return book.size() - 1;
    }

    boolean mark(int ask, int how) {
        if (!within(ask, book.size()) || !Set.of(-1, 0, 1).contains(how)) {
            return false;
        }
        Ask a = book.get(ask);
        book.set(ask, new Ask(a.person, a.act, a.thing, a.hour, how));
        return true;
    }

    int book(int ask, int what) {
        return within(ask, book.size()) && within(what, 5) ? book.get(ask).part(what) : -1;
    }

    int tried(int slot) {
        return within(slot, 4) ? (int) book.stream().filter(a -> lets(slots.get(slot), a)).count() : -1;
    }

    int decides(int slot, int line) {
        if (!within(slot, 4) || !within(line, slots.get(slot).lines.size())) {
            return -1;
        }
        return (int) book.stream().filter(a -> decider(slots.get(slot), a) == line).count();
    }

    int lost(int a, int b, int k) {
        if (!within(a, 4) || !within(b, 4)) {
            return -1;
        }
        List<Integer> found = new ArrayList<>();
        for (int i = 0; i < book.size(); i++) {
            if (lets(slots.get(a), book.get(i)) && !lets(slots.get(b), book.get(i))) {
                found.add(i);
            }
        }
        return within(k, found.size()) ? found.get(k) : -1;
    }

    private List<Ask> couldBe() {
        List<Ask> all = new ArrayList<>();
        for (int person = 0; person < people.size(); person++) {
            for (int act = 0; act < 4; act++) {
                for (int thing = 0; thing < things.size(); thing++) {
                    for (int hour = 0; hour < 24; hour++) {
                        all.add(new Ask(person, act, thing, hour, -1));
                    }
                }
            }
        }
        return all;
    }

    boolean idle(int slot, int line) {
        if (!within(slot, 4) || !within(line, slots.get(slot).lines.size())) {
            return false;
        }
        return couldBe().stream().noneMatch(a -> decider(slots.get(slot), a) == line);
    }

    int more(int a, int b) {
        if (!within(a, 4) || !within(b, 4)) {
            return -1;
        }
        return (int) couldBe().stream().filter(x -> lets(slots.get(a), x) && !lets(slots.get(b), x)).count();
    }

    int unlike(int a, int b, int what) {
        if (!within(a, 4) || !within(b, 4) || !within(what, 4)) {
            return -1;
        }
        return couldBe().stream().filter(x -> lets(slots.get(a), x) != lets(slots.get(b), x)).findFirst()
            .map(x -> x.part(what)).orElse(-1);
    }

    private static Rules changed(Rules rules, List<Change> changes) {
        List<Line> lines = new ArrayList<>();
        for (int i = 0; i < rules.lines.size(); i++) {
            int number = i;
            List<Change> here = changes.stream().filter(c -> c.line == number).toList();
            if (here.isEmpty()) {
                lines.add(rules.lines.get(i));
            } else if (here.get(0).turn) {
                lines.add(rules.lines.get(i).turned());
            }
        }
        return new Rules(rules.by, lines);
    }

    private boolean asMarked(Rules rules) {
        return book.stream().allMatch(a -> a.mark == -1 || lets(rules, a) == (a.mark == 1));
    }

    /** All rows of so many changes, each of a line behind the one before it; not in the order of MEND. */
    private static List<List<Change>> rows(int lines, int size, int from) {
        List<List<Change>> found = new ArrayList<>();
        if (size == 0) {
            found.add(List.of());
            return found;
        }
        for (int line = lines - 1; line >= from; line--) {
            for (List<Change> rest : rows(lines, size - 1, line + 1)) {
                for (boolean turn : new boolean[] {true, false}) {
                    List<Change> row = new ArrayList<>();
                    row.add(new Change(line, turn));
                    row.addAll(rest);
                    found.add(row);
                }
            }
        }
        return found;
    }

    private static int compare(List<Change> a, List<Change> b) {
        for (int i = 0; i < a.size(); i++) {
            if (a.get(i).line != b.get(i).line) {
                return a.get(i).line - b.get(i).line;
            }
            if (a.get(i).turn != b.get(i).turn) {
                return a.get(i).turn ? 1 : -1;
            }
        }
        return 0;
    }

    int mend(int slot) {
        if (!within(slot, 4)) {
            return -1;
        }
        Rules rules = slots.get(slot);
        for (int size = 0; size <= 3; size++) {
            List<Change> best = rows(rules.lines.size(), size, 0).stream().filter(row -> asMarked(changed(rules, row)))
                .min(PlainBench::compare).orElse(null);
            if (best != null) {
                mend = best;
                mendSlot = slot;
                mendRules = rules;
                return size;
            }
        }
        return -1;
    }

    int change(int k, int what) {
        if (mend == null || !within(k, mend.size()) || !within(what, 2)) {
            return -1;
        }
        return what == 0 ? mend.get(k).line : mend.get(k).turn ? 1 : 0;
    }

    int apply() {
        if (mend == null || mendRules != slots.get(mendSlot)) {
            return -1;
        }
        slots.set(mendSlot, changed(mendRules, mend));
        return slots.get(mendSlot).lines.size();
    }

    int line(int slot, int line, int what) {
        if (!within(slot, 4) || !within(line, slots.get(slot).lines.size()) || !within(what, 7)) {
            return -1;
        }
        Line l = slots.get(slot).lines.get(line);
        return switch (what) {
            case 0 -> l.let ? 1 : 0;
            case 1 -> WHO_WORDS.indexOf(l.who);
            case 2 -> l.whoNumber;
            case 3 -> ACT_WORDS.indexOf(l.act);
            case 4 -> WHAT_WORDS.indexOf(l.what);
            case 5 -> l.whatNumber;
            default -> l.when == null ? 0 : 1;
        };
    }

    int count(int what) {
        if (within(what, 4)) {
            return switch (what) {
                case 0 -> people.size();
                case 1 -> things.size();
                case 2 -> book.size();
                default -> (int) book.stream().filter(a -> a.mark != -1).count();
            };
        }
        if (what >= 4 && what <= 7) {
            return slots.get(what - 4).lines.size();
        }
        return what >= 8 && what <= 11 ? BY_WORDS.indexOf(slots.get(what - 8).by) : -1;
    }

    boolean image(int k) {
        if (!within(k, 3)) {
            return false;
        }
        images[k] = new Image(List.copyOf(people), List.copyOf(things), List.copyOf(book), List.copyOf(slots));
        return true;
    }

    boolean again(int k) {
        if (!within(k, 3) || images[k] == null) {
            return false;
        }
        people = new ArrayList<>(images[k].people);
        things = new ArrayList<>(images[k].things);
        book = new ArrayList<>(images[k].book);
        slots = new ArrayList<>(images[k].slots);
        mend = null;
        return true;
    }
}
