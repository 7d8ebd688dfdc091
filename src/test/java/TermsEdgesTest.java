/** Terms 1 and 3 of the document, and what stands ahead of them: a test for each sentence that names an edge. */
public final class TermsEdgesTest {
    private static final int NONE = RulesTried.NONE;
    private static final String LET_ALL = "let all any all;";
    private static final String STOP_ALL = "stop all any all;";

    private static void due(String call, int got, int want) {
        Checks.due(call, got, want);
    }

    private static void due(String call, boolean got, boolean want) {
        Checks.due(call, got, want);
    }

    private static void rules(RulesTried x, int slot, String text, int lines) {
        due("rules(" + slot + ") of " + text, Checks.rules(x, slot, text), lines);
    }

    /** So many PEOPLE and so many THINGS of KIND 0 and LEVEL 0, all of them the first one's. */
    private static RulesTried bench(int people, int things) {
        RulesTried x = new RulesTried();
        for (int i = 0; i < people; i++) {
            x.person(0, 0);
        }
        for (int i = 0; i < things; i++) {
            x.thing(0, 0, 0);
        }
        return x;
    }

    private static void all512Calls() {
        RulesTried x = bench(16, 16);
        String dear = "let all any all when " + "hour<24 and ".repeat(43) + "not hour=23 and not owner;";
        rules(x, 0, dear, 1);
        int calls = 32 + (dear.length() + 19) / 20 + 2;
        for (; calls < 211; calls++) {
            x.ask(calls % 16, calls % 4, calls % 16, calls % 24);
        }
        for (; calls < 511; calls += 3) {
            x.mark(calls % 148, calls % 2);
            x.mend(0);
            x.image(calls % 3);
        }
        due("more(0, 1), the 512th call", x.more(0, 1), 15 * 16 * 4 * 23);
        due("calls till then", calls, 512 - 1);
    }

    private static void noneIsBelow() {
        due("NONE", RulesTried.NONE, -1);
    }

    private static void sixteenPeople() {
        RulesTried x = new RulesTried();
        for (int i = 0; i < 16; i++) {
            due("person " + i, x.person(i, i % 6), i);
        }
        due("a 17th", x.person(0, 0), NONE);
        due("how many", x.count(0), 16);
        for (int i = 0; i < 16; i++) {
            due("groups of " + i, x.tell(i, 0), i);
        }
        due("groups of a 17th", x.tell(16, 0), NONE);
    }

    private static void eightGroups() {
        RulesTried x = new RulesTried();
        for (int group = 0; group < 8; group++) {
            due("in group " + group, x.person(1 << group, 0), group);
            due("told", x.tell(group, 0), 1 << group);
        }
        due("in none", x.person(0, 0), 8);
        due("in all", x.person(255, 0), 9);
        due("in all, told", x.tell(9, 0), 255);
        for (int groups : Checks.outside(255)) {
            due("groups " + groups, x.person(groups, 0), NONE);
            due("moves to " + groups, x.moves(0, groups, 0), false);
        }
        due("the last that came", x.count(0), 10);
        due("the first, still", x.tell(0, 0), 1);
    }

    private static void sixClearances() {
        RulesTried x = new RulesTried();
        for (int clearance = 0; clearance <= 5; clearance++) {
            due("clearance " + clearance, x.person(0, clearance), clearance);
            due("told", x.tell(clearance, 1), clearance);
        }
        for (int clearance : Checks.outside(5)) {
            due("clearance " + clearance, x.person(0, clearance), NONE);
            due("moves to " + clearance, x.moves(0, 0, clearance), false);
        }
        due("the last that came", x.count(0), 6);
    }

    private static void sixteenThings() {
        RulesTried x = bench(1, 0);
        for (int i = 0; i < 16; i++) {
            due("thing " + i, x.thing(i % 8, i % 6, 0), i);
        }
        due("a 17th", x.thing(0, 0, 0), NONE);
        due("how many", x.count(1), 16);
        for (int i = 0; i < 16; i++) {
            due("kind of " + i, x.tell(i, 2), i % 8);
            due("level of " + i, x.tell(i, 3), i % 6);
        }
        due("kind of a 17th", x.tell(16, 2), NONE);
    }

    private static void eightKinds() {
        RulesTried x = bench(1, 0);
        for (int kind = 0; kind <= 7; kind++) {
            due("kind " + kind, x.thing(kind, 0, 0), kind);
            due("told", x.tell(kind, 2), kind);
        }
        for (int kind : Checks.outside(7)) {
            due("kind " + kind, x.thing(kind, 0, 0), NONE);
        }
        due("the last that came", x.count(1), 8);
    }

    private static void sixLevels() {
        RulesTried x = bench(1, 0);
        for (int level = 0; level <= 5; level++) {
            due("level " + level, x.thing(0, level, 0), level);
            due("told", x.tell(level, 3), level);
        }
        for (int level : Checks.outside(5)) {
            due("level " + level, x.thing(0, level, 0), NONE);
            due("gives at " + level, x.gives(0, 0, level), false);
        }
        due("the last that came", x.count(1), 6);
    }

    private static void ownerIsThere() {
        RulesTried x = new RulesTried();
        due("without people", x.thing(0, 0, 0), NONE);
        for (int people = 1; people <= 14; people++) {
            x.person(0, 0);
            due("the last of " + people, x.thing(0, 0, people - 1), people - 1);
            due("one behind " + people, x.thing(0, 0, people), NONE);
            due("gives to one behind " + people, x.gives(0, people, 0), false);
            due("gives to the last of " + people, x.gives(0, people - 1, 0), true);
            due("told", x.tell(0, 4), people - 1);
        }
        for (int owner : Checks.outside(15)) {
            due("owner " + owner, x.thing(0, 0, owner), NONE);
            due("gives to " + owner, x.gives(0, owner, 0), false);
        }
    }

    private static void fourActs() {
        String[] words = {"read", "write", "share", "drop"};
        RulesTried x = bench(1, 1);
        for (int told = 0; told < 4; told++) {
            rules(x, told, "let all " + words[told] + " all;", 1);
            for (int act = 0; act < 4; act++) {
                due(words[told] + ", act " + act, x.decide(told, 0, act, 0, 0, false), act == told ? 1 : 0);
            }
        }
        for (int act : Checks.outside(3)) {
            due("act " + act, x.decide(0, 0, act, 0, 0, false), -2);
            due("ask, act " + act, x.ask(0, act, 0, 0), NONE);
        }
    }

    private static void hoursOfADay() {
        RulesTried x = bench(1, 1);
        rules(x, 0, LET_ALL, 1);
        for (int hour = 0; hour < 24; hour++) {
            due("hour " + hour, x.decide(0, 0, 0, 0, hour, false), 1);
            due("ask at " + hour, x.ask(0, 0, 0, hour), hour);
        }
        for (int hour : Checks.outside(23)) {
            due("hour " + hour, x.decide(0, 0, 0, 0, hour, false), -2);
            due("ask at " + hour, x.ask(0, 0, 0, hour), NONE);
        }
    }

    private static void first(String what, String text, int... want) {
        RulesTried x = bench(3, 3);
        rules(x, 0, text, 2);
        for (int i = 0; i < 4; i++) {
            due(what + ", what " + i, x.unlike(0, 1, i), want[i]);
        }
    }

    private static void orderOfAsks() {
        first("people go ahead of acts", "let one 1 read thing 0 when hour=0;let one 0 drop thing 2 when hour=23;", 0, 3, 2, 23);
        first("acts go ahead of things", "let one 0 write thing 0 when hour=0;let one 0 read thing 2 when hour=23;", 0, 0, 2, 23);
        first("things go ahead of hours", "let one 0 read thing 1 when hour=0;let one 0 read thing 0 when hour=23;", 0, 0, 0, 23);
        first("hours go by number", "let one 2 drop thing 2 when hour=23;let one 2 drop thing 2 when hour=22;", 2, 3, 2, 22);
    }

    private static void allThatCouldBe() {
        for (int people = 0; people <= 16; people += 4) {
            for (int things = 0; things <= 16; things += 4) {
                RulesTried x = bench(people, things);
                rules(x, 0, LET_ALL, 1);
                int there = people == 0 ? 0 : things;
                due("asks of " + people + " about " + there, x.more(0, 1), people * 4 * there * 24);
            }
        }
        RulesTried x = bench(2, 1);
        rules(x, 0, "let one 1 drop thing 0;", 1);
        due("of two about one", x.more(0, 1), 24);
        x.thing(0, 0, 0);
        due("about one of two", x.more(0, 1), 24);
    }

    private static void twoHundredAsks() {
        RulesTried x = bench(2, 2);
        for (int i = 0; i < 200; i++) {
            due("ask " + i, x.ask(i % 2, i % 4, i / 2 % 2, i % 24), i);
        }
        due("a 201st", x.ask(0, 0, 0, 0), NONE);
        due("how many", x.count(2), 200);
        for (int i : new int[] {0, 1, 2, 99, 198, 199}) {
            due("person of " + i, x.book(i, 0), i % 2);
            due("act of " + i, x.book(i, 1), i % 4);
            due("thing of " + i, x.book(i, 2), i / 2 % 2);
            due("hour of " + i, x.book(i, 3), i % 24);
        }
        due("of a 201st", x.book(200, 0), NONE);
        due("mark a 201st", x.mark(200, 1), false);
    }

    private static void sameAskTwice() {
        RulesTried x = bench(1, 1);
        due("once", x.ask(0, 1, 0, 5), 0);
        due("twice", x.ask(0, 1, 0, 5), 1);
        due("marked once", x.mark(1, 1), true);
        due("the first is not", x.book(0, 4), NONE);
    }

    private static void notMarkedAtFirst() {
        RulesTried x = bench(1, 1);
        x.image(0);
        x.ask(0, 0, 0, 0);
        due("at first", x.book(0, 4), NONE);
        due("how many", x.count(3), 0);
        x.mark(0, 1);
        x.again(0);
        x.ask(0, 0, 0, 0);
        due("at first, where a marked one was", x.book(0, 4), NONE);
    }

    private static void change(RulesTried x, int k, int line, int kind) {
        due("line of change " + k, x.change(k, 0), line);
        due("kind of change " + k, x.change(k, 1), kind);
    }

    private static void leftOutOrTurned() {
        RulesTried x = bench(1, 1);
        x.mark(x.ask(0, 0, 0, 0), 1);
        rules(x, 0, STOP_ALL, 1);
        due("mend", x.mend(0), 1);
        change(x, 0, 0, 1);
        due("turned", x.apply(), 1);
        due("stop becomes let", x.line(0, 0, 0), 1);
        x.mark(0, 0);
        rules(x, 0, LET_ALL, 1);
        due("mend", x.mend(0), 1);
        change(x, 0, 0, 0);
        due("left out", x.apply(), 0);
        rules(x, 0, "by stop;let all any all;let all read all;", 2);
        due("mend", x.mend(0), 1);
        change(x, 0, 0, 1);
        due("turned", x.apply(), 2);
        due("let becomes stop", x.line(0, 0, 0), 0);
        due("the other is as it was", x.line(0, 1, 0), 1);
    }

    /** By let, an ask is stopped once each let that holds is left out or turned. */
    private static void atMostThree() {
        RulesTried x = bench(1, 1);
        x.mark(x.ask(0, 0, 0, 0), 0);
        int[] want = {0, 1, 2, 3, NONE, NONE};
        for (int lets = 0; lets < want.length; lets++) {
            rules(x, 0, "by let;" + LET_ALL.repeat(lets), lets);
            due("of " + lets + " lets", x.mend(0), want[lets]);
        }
        rules(x, 0, "by let;" + LET_ALL.repeat(12), 12);
        due("of 12 lets", x.mend(0), NONE);
    }

    private static void fewestGoAhead() {
        RulesTried x = bench(1, 1);
        x.mark(x.ask(0, 0, 0, 0), 1);
        rules(x, 0, "stop all any all;stop all any all;stop all any all;let all any all;", 4);
        due("one turned, not three left out", x.mend(0), 1);
        change(x, 0, 0, 1);
        change(x, 1, NONE, NONE);
        rules(x, 0, "by last;let all any all;stop all any all;stop all any all;", 3);
        due("the last one turned, not two left out", x.mend(0), 1);
        change(x, 0, 2, 1);
        due("none is needed", x.mend(1), NONE);
        x.mark(0, NONE);
        due("none is needed without marks", x.mend(0), 0);
    }

    private static void eachOfAnotherLine() {
        RulesTried x = bench(2, 1);
        x.mark(x.ask(0, 0, 0, 0), 1);
        x.mark(x.ask(1, 0, 0, 0), 0);
        rules(x, 0, STOP_ALL, 1);
        due("one line can't do both", x.mend(0), NONE);
        rules(x, 0, "stop one 0 any all;let one 1 any all;", 2);
        due("two lines", x.mend(0), 2);
        change(x, 0, 0, 1);
        change(x, 1, 1, 0);
        due("lines then", x.apply(), 1);
    }

    private static void eachMarkedAsk() {
        RulesTried x = bench(1, 1);
        rules(x, 0, "let all read all;let all drop all;", 2);
        for (int i = 0; i < 200; i++) {
            x.ask(0, i == 0 ? 1 : i == 199 ? 3 : 0, 0, i % 24);
        }
        due("the book is not marked", x.mend(0), 0);
        x.mark(199, 0);
        due("the last of the book", x.mend(0), 1);
        change(x, 0, 1, 0);
        x.mark(199, 1);
        due("as it is", x.mend(0), 0);
        x.mark(0, 1);
        due("the first of the book, by no line", x.mend(0), NONE);
        x.mark(0, NONE);
        due("marked no more", x.mend(0), 0);
    }

    /** 192 asks for each of which other LINES HOLD, and one more, which alone is not decided as it is MARKED. */
    private static void eachOfManyUnlikeAsks() {
        RulesTried x = new RulesTried();
        for (int i = 0; i < 16; i++) {
            x.person(i, 0);
        }
        for (int level = 0; level < 6; level++) {
            x.thing(0, level, 0);
        }
        rules(x, 0, "let group 0 read all;let group 1 read all;let group 2 read all;let group 3 read all;let all read level 1;"
            + "let all read level 2;let all read level 3;let all read level 4;let all read level 5;let all read all when hour<12;"
            + "let all drop all;", 11);
        for (int i = 0; i < 192; i++) {
            x.mark(x.ask(i % 16, 0, i / 16 % 6, i < 96 ? 11 : 12), i == 96 ? 0 : 1);
        }
        due("all but none", x.mend(0), 0);
        x.mark(x.ask(0, 3, 0, 0), 0);
        due("the last", x.mend(0), 1);
        change(x, 0, 10, 0);
    }

    private static void markedAsksOfNoLine() {
        RulesTried x = bench(1, 1);
        x.mark(x.ask(0, 0, 0, 0), 0);
        for (String by : new String[] {"by first;", "by last;", "by stop;", "by let;"}) {
            rules(x, 0, by + "let one 1 any all;stop one 1 any all;", 2);
            due(by + " stopped by none", x.mend(0), 0);
            rules(x, 0, by + LET_ALL, 1);
            due(by + " left out, then stopped by none", x.mend(0), 1);
            change(x, 0, 0, 0);
        }
        x.mark(0, 1);
        for (String by : new String[] {"by first;", "by last;", "by stop;", "by let;"}) {
            rules(x, 0, by + "let one 1 any all;stop one 1 any all;", 2);
            due(by + " let by none", x.mend(0), NONE);
        }
    }

    private static void leastFirstLine() {
        RulesTried x = bench(1, 1);
        x.mark(x.ask(0, 0, 0, 0), 1);
        rules(x, 0, "by let;stop one 1 any all;stop all any all;stop all any all;", 3);
        due("any of two may be turned", x.mend(0), 1);
        change(x, 0, 1, 1);
        rules(x, 0, "by let;" + "stop one 1 any all;".repeat(11) + STOP_ALL, 12);
        due("the twelfth", x.mend(0), 1);
        change(x, 0, 11, 1);
        x.mark(0, 0);
        rules(x, 0, "by stop;let all any all;stop one 1 any all;let all any all;", 3);
        due("0 turned goes ahead of 2 turned", x.mend(0), 1);
        change(x, 0, 0, 1);
        rules(x, 0, "by last;let all write all;stop all read all;let all any all;", 3);
        due("the only one", x.mend(0), 1);
        change(x, 0, 2, 0);
    }

    /** A least LINE goes ahead, even TURNED, of a further one that is left out. */
    private static void leftOutGoesAhead() {
        RulesTried x = bench(1, 1);
        x.mark(x.ask(0, 0, 0, 0), 1);
        rules(x, 0, "stop all any all;let all any all;", 2);
        due("both do", x.mend(0), 1);
        change(x, 0, 0, 0);
        rules(x, 0, "by stop;let all any all when hour>0;stop all any all;let all any all;", 3);
        due("both do", x.mend(0), 1);
        change(x, 0, 1, 0);
        x.mark(0, 0);
        x.mark(x.ask(0, 1, 0, 0), 0);
        rules(x, 0, "let all read all;stop all read all;let all write all;stop all any all;", 4);
        due("two", x.mend(0), 2);
        change(x, 0, 0, 0);
        change(x, 1, 2, 0);
        rules(x, 0, "by stop;let all any all;let all any all when hour=0;", 2);
        due("a least line turned, none left out alone", x.mend(0), 1);
        change(x, 0, 0, 1);
    }

    private static void secondLikewise() {
        RulesTried x = bench(2, 1);
        x.mark(x.ask(0, 0, 0, 0), 1);
        x.mark(x.ask(1, 0, 0, 0), 1);
        rules(x, 0, "by let;stop one 0 any all;stop one 1 any all;stop one 1 read all;", 3);
        due("the second may be 1 or 2", x.mend(0), 2);
        change(x, 0, 0, 1);
        change(x, 1, 1, 1);
        rules(x, 0, "stop one 0 any all;stop one 1 any all;let all any all;", 3);
        due("both left out", x.mend(0), 2);
        change(x, 0, 0, 0);
        change(x, 1, 1, 0);
        rules(x, 0, "stop one 0 any all;stop one 1 any all;let one 0 any all;", 3);
        due("the second turned", x.mend(0), 2);
        change(x, 0, 0, 0);
        change(x, 1, 1, 1);
    }

    private static void thirdLikewise() {
        RulesTried x = bench(3, 1);
        for (int i = 0; i < 3; i++) {
            x.mark(x.ask(i, 0, 0, 0), 1);
        }
        rules(x, 0, "by let;stop one 0 any all;stop one 1 any all;stop one 2 any all;stop one 2 read all;", 4);
        due("the third may be 2 or 3", x.mend(0), 3);
        change(x, 0, 0, 1);
        change(x, 1, 1, 1);
        change(x, 2, 2, 1);
        change(x, 3, NONE, NONE);
        rules(x, 0, "stop one 0 any all;stop one 1 any all;stop one 2 any all;let all any all;", 4);
        due("all three left out", x.mend(0), 3);
        change(x, 0, 0, 0);
        change(x, 1, 1, 0);
        change(x, 2, 2, 0);
        rules(x, 0, "stop one 0 any all;stop one 1 any all;stop one 2 any all;let one 1 any all;", 4);
        due("the first and the third turned", x.mend(0), 3);
        change(x, 0, 0, 1);
        change(x, 1, 1, 0);
        change(x, 2, 2, 1);
    }

    private static void termsOfOne() {
        Checks.sentence("PEOPLE (at most 16, from 0 on)", TermsEdgesTest::sixteenPeople);
        Checks.sentence("are in GROUPS (bits 0 .. 7)", TermsEdgesTest::eightGroups);
        Checks.sentence("and have a CLEARANCE, 0 .. 5.", TermsEdgesTest::sixClearances);
        Checks.sentence("THINGS (at most 16)", TermsEdgesTest::sixteenThings);
        Checks.sentence("have a KIND, 0 .. 7", TermsEdgesTest::eightKinds);
        Checks.sentence("a LEVEL, 0 .. 5", TermsEdgesTest::sixLevels);
        Checks.sentence("and an OWNER, one of the PEOPLE.", TermsEdgesTest::ownerIsThere);
        Checks.sentence("ACTS are 0 read, 1 write, 2 share, 3 drop.", TermsEdgesTest::fourActs);
        Checks.sentence("HOURS are 0 .. 23.", TermsEdgesTest::hoursOfADay);
        Checks.sentence("What COULD BE ASKED are all such", TermsEdgesTest::allThatCouldBe);
        Checks.sentence("in order of PEOPLE, then ACTS, THINGS, HOURS.", TermsEdgesTest::orderOfAsks);
        Checks.sentence("THE BOOK: at most 200 ASKS, from 0 on", TermsEdgesTest::twoHundredAsks);
        Checks.sentence("as they were told", TermsEdgesTest::sameAskTwice);
        Checks.sentence("each is MARKED to be let, to be stopped, or not MARKED (at first).", TermsEdgesTest::notMarkedAtFirst);
    }

    private static void termsOfThree() {
        Checks.sentence("A CHANGE of a LINE: it is left out, or it is TURNED ('let' becomes 'stop', 'stop' becomes 'let').",
            TermsEdgesTest::leftOutOrTurned);
        Checks.sentence("the fewest CHANGES", TermsEdgesTest::fewestGoAhead);
        Checks.sentence("at most 3", TermsEdgesTest::atMostThree);
        Checks.sentence("each of another LINE", TermsEdgesTest::eachOfAnotherLine);
        Checks.sentence("by which each MARKED ASK of THE BOOK is decided as it is MARKED", TermsEdgesTest::eachMarkedAsk);
        Checks.sentence("by which each MARKED ASK of THE BOOK is decided as it is MARKED, of many too", TermsEdgesTest::eachOfManyUnlikeAsks);
        Checks.sentence("by which each MARKED ASK of THE BOOK is decided as it is MARKED, by no LINE too", TermsEdgesTest::markedAsksOfNoLine);
        Checks.sentence("of several as few that whose first LINE (of those that are changed, by numbers) is the least",
            TermsEdgesTest::leastFirstLine);
        Checks.sentence("if these are the same left out goes ahead of TURNED", TermsEdgesTest::leftOutGoesAhead);
        Checks.sentence("then by the second one, likewise", TermsEdgesTest::secondLikewise);
        Checks.sentence("and the third.", TermsEdgesTest::thirdLikewise);
    }

    public static void main(String[] args) {
        Checks.sentence("An object is used for at most 512 calls after it has been made", TermsEdgesTest::all512Calls);
        Checks.sentence("The constants: `NONE = -1`: There is none.", TermsEdgesTest::noneIsBelow);
        termsOfOne();
        termsOfThree();
        Checks.finish();
    }
}
