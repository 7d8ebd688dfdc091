import java.util.ArrayList;
import java.util.List;
import java.util.Random;

/** MENDs that are there to be found: some lines are changed, asks are marked as the changed rules decide. */
public final class MendRunsTest {
    private static final int RUNS = 1000;

    private final Random random;
    private final int run;
    private final RulesTried x = new RulesTried();
    private final PlainBench y = new PlainBench();

    private MendRunsTest(int run) {
        this.run = run;
        random = new Random(104729L * run + 5);
    }

    private String pick(String... words) {
        return words[random.nextInt(words.length)];
    }

    private void same(String call, int got, int want) {
        Checks.due("run " + run + ": " + call, got, want);
    }

    private String rest() {
        return pick("all ", "group 0 ", "group 1 ", "one 0 ", "one 1 ", "owner ", "clear 2 ") + pick("any ", "any ", "read ", "write ")
            + pick("all", "all", "kind 1", "thing 0", "level 2") + pick("", "", " when hour<9", " when not owner") + ";";
    }

    private void put(int slot, String by, List<String> lines) {
        String text = by + String.join("", lines);
        for (int from = 0; from < text.length(); from += 20) {
            int[] n = Checks.twenty(text, from);
            same("feed", x.feed(n[0], n[1], n[2], n[3], n[4]), y.feed(n));
        }
        same("end", x.end(text.length()), y.end(text.length()));
        same("rules of " + text, x.rules(slot), y.rules(slot));
    }

    private void people() {
        for (int i = 0; i < 3; i++) {
            int groups = random.nextInt(4);
            int clearance = random.nextInt(4);
            same("person", x.person(groups, clearance), y.person(groups, clearance));
        }
        for (int i = 0; i < 3; i++) {
            int kind = random.nextInt(2);
            int level = random.nextInt(4);
            same("thing", x.thing(kind, level, i), y.thing(kind, level, i));
        }
    }

    private List<String> changed(List<String> lines, int changes) {
        List<String> other = new ArrayList<>(lines);
        for (int i = 0; i < changes; i++) {
            int at = random.nextInt(lines.size());
            String line = lines.get(at);
            String turned = line.startsWith("let") ? "stop" + line.substring(3) : "let" + line.substring(4);
            other.set(at, random.nextBoolean() ? "" : turned);
        }
        return other;
    }

    private void asks() {
        int asks = 10 + random.nextInt(60);
        for (int i = 0; i < asks; i++) {
            int person = random.nextInt(3);
            int act = random.nextInt(4);
            int thing = random.nextInt(3);
            int hour = random.nextInt(24);
            int number = y.ask(person, act, thing, hour);
            same("ask", x.ask(person, act, thing, hour), number);
            int how = random.nextInt(5) == 0 ? -1 : y.decide(1, person, act, thing, hour, false);
            same("mark", x.mark(number, how) ? 1 : 0, y.mark(number, how) ? 1 : 0);
        }
    }

    private void go() {
        people();
        String by = pick("by first;", "by last;", "by stop;", "by let;");
        List<String> lines = new ArrayList<>();
        int count = 1 + random.nextInt(12);
        for (int i = 0; i < count; i++) {
            lines.add(pick("let ", "stop ") + rest());
        }
        put(0, by, lines);
        put(1, by, changed(lines, 1 + random.nextInt(4)));
        asks();
        same("mend of " + by + lines, x.mend(0), y.mend(0));
        for (int k = -1; k <= 3; k++) {
            same("line of change " + k + " of " + by + lines, x.change(k, 0), y.change(k, 0));
            same("kind of change " + k + " of " + by + lines, x.change(k, 1), y.change(k, 1));
        }
        same("apply", x.apply(), y.apply());
        same("apply again", x.apply(), y.apply());
        same("mend of what is mended", x.mend(0), y.mend(0));
        for (int line = 0; line < 12; line++) {
            same("line " + line, x.line(0, line, 0), y.line(0, line, 0));
            same("decides " + line, x.decides(0, line), y.decides(0, line));
            same("idle " + line, x.idle(0, line) ? 1 : 0, y.idle(0, line) ? 1 : 0);
        }
        same("more", x.more(0, 1), y.more(0, 1));
        same("lost", x.lost(1, 0, 0), y.lost(1, 0, 0));
    }

    public static void main(String[] args) {
        int runs = args.length > 0 ? Integer.parseInt(args[0]) : RUNS;
        for (int run = 0; run < runs; run++) {
            new MendRunsTest(run).go();
        }
        Checks.finish();
    }
}
