import java.util.LinkedHashMap;
import java.util.Map;
import java.util.function.ToIntFunction;

/**
 * "A refused call changes nothing but the tape, which is empty behind each call that takes it.": each call that can be
 * refused, on a bench with room and on a full one, which must look and go on as one on which it was not called.
 */
public final class RefusedTest {
    private static final int NONE = RulesTried.NONE;
    private static final String TEXT = "stop one 1 any all;let all any all when hour=0;";

    private RefusedTest() {
    }

    /** With a MEND at hand for SLOT 0, a FAULT, image 1, and a tape of 600 bytes that is a text. */
    private static RulesTried bench(int people, int things, int asks) {
        RulesTried x = new RulesTried();
        x.image(1);
        for (int i = 0; i < people; i++) {
            x.person(255 - i, i % 6);
        }
        for (int i = 0; i < things; i++) {
            x.thing(i % 8, i % 6, i % people);
        }
        for (int i = 0; i < asks; i++) {
            x.ask(i % people, i % 4, i % things, i % 24);
        }
        x.mark(0, 1);
        Checks.rules(x, 0, "by last;let all any all;stop one 0 any all;");
        Checks.rules(x, 1, "by stop;stop all any all;");
        Checks.rules(x, 2, "let one 16 any all;");
        x.mend(0);
        Checks.put(x, TEXT + " ".repeat(600 - TEXT.length()));
        return x;
    }

    private static RulesTried withRoom() {
        return bench(3, 3, 5);
    }

    private static RulesTried full() {
        return bench(16, 16, 200);
    }

    private static void add(StringBuilder seen, String what, int answer) {
        seen.append(what).append(' ').append(answer).append('\n');
    }

    /** All that can be told without changing it, of few enough rows that an object has no more than its 512 calls. */
    private static void look(RulesTried x, StringBuilder seen) {
        for (int what = 0; what < 12; what++) {
            add(seen, "count " + what, x.count(what));
        }
        for (int k : new int[] {0, 2, 15}) {
            for (int what = 0; what < 5; what++) {
                add(seen, "tell " + k + " " + what, x.tell(k, what));
            }
        }
        for (int ask : new int[] {0, 4, 199}) {
            for (int what = 0; what < 5; what++) {
                add(seen, "book " + ask + " " + what, x.book(ask, what));
            }
        }
        for (int slot = 0; slot < 4; slot++) {
            add(seen, "line 0 of " + slot, x.line(slot, 0, 0));
            add(seen, "line 1 of " + slot, x.line(slot, 1, 1));
            add(seen, "line 2 of " + slot, x.line(slot, 2, 0));
            add(seen, "tried " + slot, x.tried(slot));
        }
        for (int k = 0; k < 2; k++) {
            add(seen, "line of change " + k, x.change(k, 0));
            add(seen, "kind of change " + k, x.change(k, 1));
        }
        add(seen, "fault", x.fault(0));
        add(seen, "place", x.fault(1));
    }

    /** How it looks, and how it goes on: each of the tape, the MEND and the images is used once. */
    private static String seen(RulesTried x) {
        StringBuilder seen = new StringBuilder();
        look(x, seen);
        add(seen, "601 bytes", x.end(601));
        add(seen, "600 bytes", x.end(600));
        add(seen, "rules", x.rules(3));
        add(seen, "lines", x.count(7));
        add(seen, "apply", x.apply());
        add(seen, "turned", x.line(0, 1, 0));
        add(seen, "lines", x.count(4));
        add(seen, "again 0", x.again(0) ? 1 : 0);
        add(seen, "again 2", x.again(2) ? 1 : 0);
        add(seen, "again 1", x.again(1) ? 1 : 0);
        add(seen, "people", x.count(0));
        add(seen, "asks", x.count(2));
        return seen.toString();
    }

    private static Map<String, ToIntFunction<RulesTried>> toldCalls() {
        Map<String, ToIntFunction<RulesTried>> calls = new LinkedHashMap<>();
        calls.put("feed of a full tape", x -> x.feed(0, 0, 0, 0, 0));
        calls.put("end(-1)", x -> x.end(-1));
        calls.put("end(601)", x -> x.end(601));
        calls.put("rules(-1)", x -> x.rules(-1));
        calls.put("rules(4)", x -> x.rules(4));
        calls.put("person(-1, 0)", x -> x.person(-1, 0));
        calls.put("person(256, 0)", x -> x.person(256, 0));
        calls.put("person(0, -1)", x -> x.person(0, -1));
        calls.put("person(0, 6)", x -> x.person(0, 6));
        calls.put("thing(-1, 0, 0)", x -> x.thing(-1, 0, 0));
        calls.put("thing(8, 0, 0)", x -> x.thing(8, 0, 0));
        calls.put("thing(0, -1, 0)", x -> x.thing(0, -1, 0));
        calls.put("thing(0, 6, 0)", x -> x.thing(0, 6, 0));
        calls.put("thing(0, 0, -1)", x -> x.thing(0, 0, -1));
        calls.put("thing(0, 0, 16)", x -> x.thing(0, 0, 16));
        calls.put("moves(-1, 0, 0)", x -> x.moves(-1, 0, 0) ? 1 : 0);
        calls.put("moves(16, 0, 0)", x -> x.moves(16, 0, 0) ? 1 : 0);
        calls.put("moves(0, 256, 5)", x -> x.moves(0, 256, 5) ? 1 : 0);
        calls.put("moves(0, 0, 6)", x -> x.moves(0, 0, 6) ? 1 : 0);
        calls.put("gives(-1, 0, 0)", x -> x.gives(-1, 0, 0) ? 1 : 0);
        calls.put("gives(16, 0, 0)", x -> x.gives(16, 0, 0) ? 1 : 0);
        calls.put("gives(0, 16, 5)", x -> x.gives(0, 16, 5) ? 1 : 0);
        calls.put("gives(0, 1, 6)", x -> x.gives(0, 1, 6) ? 1 : 0);
        calls.put("ask(16, 0, 0, 0)", x -> x.ask(16, 0, 0, 0));
        calls.put("ask(0, 4, 0, 0)", x -> x.ask(0, 4, 0, 0));
        calls.put("ask(0, 0, 16, 0)", x -> x.ask(0, 0, 16, 0));
        calls.put("ask(0, 0, 0, 24)", x -> x.ask(0, 0, 0, 24));
        calls.put("mark(-1, 0)", x -> x.mark(-1, 0) ? 1 : 0);
        calls.put("mark(200, 0)", x -> x.mark(200, 0) ? 1 : 0);
        calls.put("mark(0, 2)", x -> x.mark(0, 2) ? 1 : 0);
        calls.put("mark(0, -2)", x -> x.mark(0, -2) ? 1 : 0);
        return calls;
    }

    private static Map<String, ToIntFunction<RulesTried>> triedCalls() {
        Map<String, ToIntFunction<RulesTried>> calls = new LinkedHashMap<>();
        calls.put("mend(-1)", x -> x.mend(-1));
        calls.put("mend(4)", x -> x.mend(4));
        calls.put("mend(3), which no 3 do", x -> x.mend(3));
        calls.put("image(-1)", x -> x.image(-1) ? 1 : 0);
        calls.put("image(3)", x -> x.image(3) ? 1 : 0);
        calls.put("again(-1)", x -> x.again(-1) ? 1 : 0);
        calls.put("again(0), which is not there", x -> x.again(0) ? 1 : 0);
        calls.put("again(3)", x -> x.again(3) ? 1 : 0);
        calls.put("decide(4, 0, 0, 0, 0, true)", x -> x.decide(4, 0, 0, 0, 0, true));
        calls.put("decide(0, 16, 0, 0, 0, false)", x -> x.decide(0, 16, 0, 0, 0, false));
        calls.put("tried(4)", x -> x.tried(4));
        calls.put("decides(0, 2)", x -> x.decides(0, 2));
        calls.put("lost(0, 4, 0)", x -> x.lost(0, 4, 0));
        calls.put("idle(0, 2)", x -> x.idle(0, 2) ? 1 : 0);
        calls.put("more(4, 0)", x -> x.more(4, 0));
        calls.put("unlike(0, 1, 4)", x -> x.unlike(0, 1, 4));
        calls.put("change(1, 0)", x -> x.change(1, 0));
        calls.put("line(0, 2, 0)", x -> x.line(0, 2, 0));
        calls.put("count(12)", x -> x.count(12));
        calls.put("tell(16, 0)", x -> x.tell(16, 0));
        calls.put("book(200, 0)", x -> x.book(200, 0));
        calls.put("fault(2)", x -> x.fault(2));
        return calls;
    }

    private static Map<String, ToIntFunction<RulesTried>> callsOfAFullBench() {
        Map<String, ToIntFunction<RulesTried>> calls = new LinkedHashMap<>();
        calls.put("a 17th of the people", x -> x.person(0, 0));
        calls.put("a 17th thing", x -> x.thing(0, 0, 0));
        calls.put("a 201st ask", x -> x.ask(0, 0, 0, 0));
        return calls;
    }

    /** Calls that only look change nothing either. */
    private static Map<String, ToIntFunction<RulesTried>> lookingCalls() {
        Map<String, ToIntFunction<RulesTried>> calls = new LinkedHashMap<>();
        calls.put("decide", x -> x.decide(0, 1, 2, 1, 5, true));
        calls.put("tried", x -> x.tried(1));
        calls.put("decides", x -> x.decides(1, 0));
        calls.put("lost", x -> x.lost(1, 0, 0));
        calls.put("idle", x -> x.idle(0, 0) ? 1 : 0);
        calls.put("more", x -> x.more(1, 0));
        calls.put("unlike", x -> x.unlike(0, 1, 1));
        return calls;
    }

    private static void nothingChanges(Map<String, ToIntFunction<RulesTried>> calls, boolean isFull) {
        String want = seen(isFull ? full() : withRoom());
        for (Map.Entry<String, ToIntFunction<RulesTried>> call : calls.entrySet()) {
            RulesTried x = isFull ? full() : withRoom();
            call.getValue().applyAsInt(x);
            String got = seen(x);
            Checks.due("nothing but this is changed by " + call.getKey() + ": " + firstUnlike(got, want), got.equals(want), true);
        }
    }

    /** NONE, -2 or false. */
    private static void areRefused(Map<String, ToIntFunction<RulesTried>> calls, boolean isFull) {
        RulesTried x = isFull ? full() : withRoom();
        for (Map.Entry<String, ToIntFunction<RulesTried>> call : calls.entrySet()) {
            Checks.due(call.getKey() + ", refused", call.getValue().applyAsInt(x) <= 0, true);
        }
    }

    private static String firstUnlike(String got, String want) {
        String[] gotRows = got.split("\n");
        String[] wantRows = want.split("\n");
        for (int i = 0; i < wantRows.length; i++) {
            if (!gotRows[i].equals(wantRows[i])) {
                return gotRows[i] + ", where it was " + wantRows[i];
            }
        }
        return "nothing";
    }

    private static void refused() {
        for (boolean isFull : new boolean[] {false, true}) {
            areRefused(toldCalls(), isFull);
            areRefused(triedCalls(), isFull);
            nothingChanges(toldCalls(), isFull);
            nothingChanges(triedCalls(), isFull);
            nothingChanges(lookingCalls(), isFull);
        }
        areRefused(callsOfAFullBench(), true);
        nothingChanges(callsOfAFullBench(), true);
    }

    /** The bench is one on which there is something to change: else nothing above would be seen. */
    private static void somethingIsThere() {
        RulesTried x = withRoom();
        Checks.due("line of the change", x.change(0, 0), 1);
        Checks.due("fault", x.fault(0), 2);
        Checks.due("600 bytes", x.end(600), 600);
        Checks.due("rules", x.rules(3), 2);
        Checks.due("fault", x.fault(0), 0);
        Checks.due("apply", x.apply(), 1);
        Checks.due("again", x.again(1), true);
        Checks.due("people", x.count(0), 0);
    }

    private static void refusedRules() {
        RulesTried x = withRoom();
        x.end(0);
        Checks.due("rules with a fault", Checks.rules(x, 0, "let all any all;x"), NONE);
        Checks.due("the tape is empty", x.end(1), NONE);
        Checks.due("lines of slot 0", x.count(4), 2);
        Checks.due("by last", x.count(8), 1);
        Checks.due("line of the change", x.change(0, 0), 1);
        Checks.due("apply", x.apply(), 1);
        Checks.due("apply, refused", x.apply(), NONE);
        Checks.due("lines of slot 0", x.count(4), 1);
        Checks.due("line of the change", x.change(0, 0), 1);
        Checks.due("again", x.again(1), true);
        Checks.due("people", x.count(0), 0);
    }

    public static void main(String[] args) {
        Checks.sentence("A refused call changes nothing", RefusedTest::refused);
        Checks.sentence("A refused call changes nothing", RefusedTest::somethingIsThere);
        Checks.sentence("but the tape, which is empty behind each call that takes it.", RefusedTest::refusedRules);
        Checks.finish();
    }
}
