import java.util.Random;

/** Runs of calls drawn from fixed seeds, on the class and on PlainBench: every answer must be the same. */
public final class RandomRunsTest {
    private static final int RUNS = 200;
    // An object has 512 calls: the last text and the counts at the end must still come within them.
    private static final int CALLS = 512 - 35 - 14;
    private static final int[] ODD = {Integer.MIN_VALUE, Integer.MAX_VALUE, -2, -1, 16, 200, 256, 600, -600};

    private final Random random;
    private final RulesTried x = new RulesTried();
    private final PlainBench y = new PlainBench();
    private final int run;
    private int calls = 0;

    private RandomRunsTest(int run) {
        this.run = run;
        random = new Random(7919L * run + 17);
    }

    /** Mostly below the size, at times just beside it or far off. */
    private int number(int size) {
        int draw = random.nextInt(40);
        if (draw == 0) {
            return ODD[random.nextInt(ODD.length)];
        }
        return draw == 1 ? size : draw == 2 ? -1 : random.nextInt(Math.max(1, size));
    }

    private String pick(String... words) {
        return words[random.nextInt(words.length)];
    }

    private String term() {
        return random.nextInt(3) == 0 ? "" + random.nextInt(random.nextInt(4) == 0 ? 30 : 8)
            : pick("hour", "hour", "clear", "level", "kind", "groups");
    }

    private String when(int depth) {
        StringBuilder text = new StringBuilder();
        int parts = 1 + random.nextInt(3);
        for (int i = 0; i < parts; i++) {
            text.append(i == 0 ? "" : pick(" and ", " and ", " or ", "\nor "));
            text.append(random.nextInt(4) == 0 ? "not " : "");
            int kind = random.nextInt(6);
            if (kind == 0 && depth < 7) {
                text.append('(').append(when(depth + 1)).append(')');
            } else if (kind == 1) {
                text.append("owner");
            } else {
                text.append(term()).append(pick("<", ">", "=", " = ", " <")).append(term());
            }
        }
        return text.toString();
    }

    private int top(int size) {
        return random.nextInt(60) == 0 ? size : random.nextInt(size);
    }

    private String line() {
        String who = pick("all", "all", "group " + top(8), "one " + (random.nextBoolean() ? top(16) : random.nextInt(4)), "owner",
            "clear " + top(6));
        String what = pick("all", "all", "kind " + top(8), "thing " + (random.nextBoolean() ? top(16) : random.nextInt(4)),
            "level " + top(6));
        String when = random.nextInt(3) == 0 ? " when " + when(1) : "";
        return pick("let ", "stop ") + who + " " + pick("any", "any", "read", "write", "share", "drop") + " " + what + when + ";";
    }

    private String text() {
        StringBuilder text = new StringBuilder();
        text.append(pick("", "", "by first;", "by last;", "by stop;", "by let;"));
        int lines = random.nextInt(random.nextInt(12) == 0 ? 15 : 8);
        for (int i = 0; i < lines; i++) {
            text.append(line()).append(pick("", "", " ", "\n"));
        }
        if (random.nextInt(8) == 0 && text.length() > 0) {
            spoil(text);
        }
        return text.substring(0, Math.min(text.length(), 600));
    }

    private void spoil(StringBuilder text) {
        int place = random.nextInt(text.length());
        switch (random.nextInt(4)) {
            case 0 -> text.setLength(place);
            case 1 -> text.deleteCharAt(place);
            case 2 -> text.setCharAt(place, (char) random.nextInt(256));
            default -> text.insert(place, pick(";", "(", ")", "9", "1234", " not ", " and ", " let ", " by ", "<", "x", "\t"));
        }
    }

    private void same(String call, int got, int want) {
        calls++;
        Checks.due("run " + run + ", call " + calls + ": " + call, got, want);
    }

    private void same(String call, boolean got, boolean want) {
        same(call, got ? 1 : 0, want ? 1 : 0);
    }

    private void putRules(int slot) {
        String text = text();
        for (int from = 0; from < text.length(); from += 20) {
            int[] n = Checks.twenty(text, from);
            same("feed", x.feed(n[0], n[1], n[2], n[3], n[4]), y.feed(n));
        }
        same("end", x.end(text.length()), y.end(text.length()));
        same("rules(" + slot + ") of '" + text + "'", x.rules(slot), y.rules(slot));
        same("fault(0) of '" + text + "'", x.fault(0), y.fault(0));
        same("fault(1) of '" + text + "'", x.fault(1), y.fault(1));
    }

    private void tellCall() {
        int a = number(16);
        int b = number(8);
        int c = number(6);
        int d = random.nextInt(Math.max(1, y.count(0)));
        int ask = number(y.count(2));
        switch (random.nextInt(8)) {
            case 0 -> same("person", x.person(a * 17, c), y.person(a * 17, c));
            case 1 -> same("thing", x.thing(b, c, d), y.thing(b, c, d));
            case 2 -> same("moves", x.moves(a, a * 16 + b, c), y.moves(a, a * 16 + b, c));
            case 3 -> same("gives", x.gives(a, d, c), y.gives(a, d, c));
            case 4 -> putAsk();
            case 5 -> same("mark", x.mark(ask, b % 3 - 1), y.mark(ask, b % 3 - 1));
            case 6 -> same("image", x.image(b % 4), y.image(b % 4));
            default -> {
                if (random.nextInt(12) == 0) {
                    same("again", x.again(b % 4), y.again(b % 4));
                }
            }
        }
    }

    private void putAsk() {
        int person = number(y.count(0));
        int act = number(4);
        int thing = number(y.count(1));
        int hour = number(24);
        int number = y.ask(person, act, thing, hour);
        same("ask", x.ask(person, act, thing, hour), number);
        int how = y.decide(0, person, act, thing, hour, false);
        // Marks mostly as SLOT 0 decides, so that a few CHANGES may do.
        int marked = random.nextInt(12) == 0 ? 1 - how : how;
        if (random.nextBoolean()) {
            same("mark", x.mark(number, marked), y.mark(number, marked));
        }
    }

    private void askCall() {
        int slot = number(4);
        int other = number(4);
        int line = number(Math.max(0, y.count(4 + (slot & 3))));
        int k = number(5);
        int ask = number(y.count(2));
        int what = number(7);
        boolean which = random.nextBoolean();
        switch (random.nextInt(14)) {
            case 0 -> {
                int person = number(y.count(0));
                int act = number(4);
                int thing = number(y.count(1));
                int hour = number(24);
                same("decide", x.decide(slot, person, act, thing, hour, which), y.decide(slot, person, act, thing, hour, which));
            }
            case 1 -> same("tell", x.tell(line, k), y.tell(line, k));
            case 2 -> same("book", x.book(ask, k), y.book(ask, k));
            case 3 -> same("tried", x.tried(slot), y.tried(slot));
            case 4 -> same("decides", x.decides(slot, line), y.decides(slot, line));
            case 5 -> same("lost", x.lost(slot, other, k), y.lost(slot, other, k));
            case 6 -> same("idle", x.idle(slot, line), y.idle(slot, line));
            case 7 -> same("more", x.more(slot, other), y.more(slot, other));
            case 8 -> same("unlike", x.unlike(slot, other, k), y.unlike(slot, other, k));
            case 9 -> same("mend", x.mend(slot), y.mend(slot));
            case 10 -> same("change", x.change(k % 4, what % 3), y.change(k % 4, what % 3));
            case 11 -> {
                if (random.nextInt(3) == 0) {
                    same("apply", x.apply(), y.apply());
                }
            }
            case 12 -> same("line", x.line(slot, line, what), y.line(slot, line, what));
            default -> same("count", x.count(k + what), y.count(k + what));
        }
    }

    private void go() {
        int people = random.nextInt(5);
        int things = random.nextInt(5);
        for (int i = 0; i < people; i++) {
            int groups = random.nextInt(256) & random.nextInt(256);
            int clearance = random.nextInt(6);
            same("person", x.person(groups, clearance), y.person(groups, clearance));
        }
        for (int i = 0; i < things; i++) {
            int kind = random.nextInt(8);
            int level = random.nextInt(6);
            int owner = number(people);
            same("thing", x.thing(kind, level, owner), y.thing(kind, level, owner));
        }
        for (int slot = 0; slot < 3; slot++) {
            putRules(slot);
        }
        same("image", x.image(0), y.image(0));
        for (int i = 0; i < CALLS && calls < CALLS; i++) {
            int draw = random.nextInt(30);
            if (draw == 0) {
                putRules(number(4));
            } else if (draw < 13) {
                tellCall();
            } else {
                askCall();
            }
        }
        for (int what = -1; what <= 12; what++) {
            same("count(" + what + ")", x.count(what), y.count(what));
        }
    }

    public static void main(String[] args) {
        int runs = args.length > 0 ? Integer.parseInt(args[0]) : RUNS;
        for (int run = 0; run < runs; run++) {
            new RandomRunsTest(run).go();
        }
        Checks.finish();
    }
}
