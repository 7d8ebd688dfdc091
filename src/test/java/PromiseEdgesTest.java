/** Promises 1 to 27 of the document: a test for each sentence that names an edge, or a call that is refused. */
public final class PromiseEdgesTest {
    private static final int NONE = RulesTried.NONE;
    private static final int BLANKS = 0x20202020;
    private static final String LET_ALL = "let all any all;";
    private static final String STOP_ALL = "stop all any all;";

    private static void due(String call, int got, int want) {
        Checks.due(call, got, want);
    }

    private static void due(String call, boolean got, boolean want) {
        Checks.due(call, got, want);
    }

    private static void rules(RulesTried x, int slot, String text, int lines) {
        due("rules(" + slot + ") of " + text, Checks.rules(x, slot, text), lines);
    }

    private static int feedBlanks(RulesTried x) {
        return x.feed(BLANKS, BLANKS, BLANKS, BLANKS, BLANKS);
    }

    private static RulesTried fed(int times) {
        RulesTried x = new RulesTried();
        for (int i = 0; i < times; i++) {
            feedBlanks(x);
        }
        return x;
    }

    /** Two PEOPLE and two THINGS. */
    private static RulesTried bench() {
        RulesTried x = new RulesTried();
        x.person(1, 2);
        x.person(128, 5);
        x.thing(3, 4, 0);
        x.thing(7, 5, 1);
        return x;
    }

    private static void nothingAtFirst() {
        RulesTried x = new RulesTried();
        for (int what = 0; what < 4; what++) {
            due("count(" + what + ")", x.count(what), 0);
        }
        due("nobody may be asked for", x.ask(0, 0, 0, 0), NONE);
        due("decide", x.decide(0, 0, 0, 0, 0, false), -2);
        due("moves", x.moves(0, 0, 0), false);
        due("gives", x.gives(0, 0, 0), false);
        due("mark", x.mark(0, NONE), false);
        for (int what = 0; what < 5; what++) {
            due("tell(0, " + what + ")", x.tell(0, what), NONE);
            due("book(0, " + what + ")", x.book(0, what), NONE);
        }
    }

    private static void slotsWithoutRules() {
        RulesTried x = new RulesTried();
        for (int slot = 0; slot < 4; slot++) {
            due("lines of " + slot, x.count(4 + slot), 0);
            due("how " + slot + " decides", x.count(8 + slot), 0);
            due("line 0 of " + slot, x.line(slot, 0, 0), NONE);
            due("tried(" + slot + ")", x.tried(slot), 0);
            due("decides(" + slot + ", 0)", x.decides(slot, 0), NONE);
            due("idle(" + slot + ", 0)", x.idle(slot, 0), false);
            due("more(" + slot + ", 0)", x.more(slot, 0), 0);
            due("unlike(" + slot + ", 0, 0)", x.unlike(slot, 0, 0), NONE);
            due("lost(" + slot + ", 0, 0)", x.lost(slot, 0, 0), NONE);
        }
    }

    private static void emptyTape() {
        RulesTried x = new RulesTried();
        due("end(1)", x.end(1), NONE);
        due("end(0)", x.end(0), 0);
        due("rules of nothing", x.rules(0), 0);
        due("no fault", x.fault(0), 0);
        due("20 come behind nothing", feedBlanks(x), 20);
    }

    private static void noMendNoImages() {
        RulesTried x = new RulesTried();
        due("apply", x.apply(), NONE);
        due("change", x.change(0, 0), NONE);
        for (int k = 0; k < 3; k++) {
            due("again(" + k + ")", x.again(k), false);
        }
        due("fault(0)", x.fault(0), 0);
        due("fault(1)", x.fault(1), NONE);
    }

    private static void highestFirst() {
        RulesTried x = new RulesTried();
        due("let all any all;", x.feed(0x6c657420, 0x616c6c20, 0x616e7920, 0x616c6c3b, BLANKS), 20);
        due("rules", x.rules(0), 1);
        due("the last byte", x.feed(BLANKS, BLANKS, BLANKS, BLANKS, 0x20202078), 20);
        due("rules", x.rules(0), NONE);
        due("is at 19", x.fault(1), 19);
        int[] places = {0, 4, 8, 12, 16};
        for (int i = 0; i < 5; i++) {
            int[] n = {BLANKS, BLANKS, BLANKS, BLANKS, BLANKS};
            n[i] = 0xff202020;
            x.feed(n[0], n[1], n[2], n[3], n[4]);
            due("a number below 0, rules", x.rules(0), NONE);
            due("its highest byte", x.fault(1), places[i]);
        }
    }

    private static void moreThan600() {
        RulesTried x = new RulesTried();
        for (int i = 1; i <= 30; i++) {
            due("feed " + i, feedBlanks(x), 20 * i);
        }
        due("at 600", x.feed(0, 0, 0, 0, 0), NONE);
        due("nothing came", x.rules(0), 0);
        for (int length = 580; length <= 600; length++) {
            x = fed(30);
            x.end(length);
            due("at " + length, x.feed(-1, -1, -1, -1, -1), length == 580 ? 600 : NONE);
            due("all are there", x.end(length), length);
            due("and no more", x.end(length + 1), NONE);
            due("none of those", x.rules(0), 0);
        }
        due("at 579", fed(30).end(579), 579);
        x = fed(30);
        x.end(579);
        due("599", feedBlanks(x), 599);
        due("at 599", feedBlanks(x), NONE);
    }

    private static void firstBytesAlone() {
        RulesTried x = new RulesTried();
        Checks.put(x, "let all any all;xxxx");
        due("end(20)", x.end(20), 20);
        due("end(17)", x.end(17), 17);
        due("end(16)", x.end(16), 16);
        due("what was cut is gone", x.end(17), NONE);
        due("20 behind these", feedBlanks(x), 36);
        due("it is a text", x.rules(0), 1);
        Checks.put(x, "xxxx");
        due("end(0)", x.end(0), 0);
        due("nothing is a text", x.rules(0), 0);
    }

    private static void notSoMany() {
        RulesTried x = fed(1);
        for (int n : Checks.outside(20)) {
            due("end(" + n + ")", x.end(n), NONE);
        }
        due("the tape stays", x.end(20), 20);
        x = fed(30);
        due("end(601)", x.end(601), NONE);
        due("end(600)", x.end(600), 600);
    }

    private static void tapeIsTaken() {
        RulesTried x = new RulesTried();
        rules(x, 0, LET_ALL, 1);
        due("taken", x.end(1), NONE);
        rules(x, 0, "let", NONE);
        due("taken with a fault too", x.end(1), NONE);
        due("the next is of nothing", x.rules(0), 0);
        due("lines then", x.count(4), 0);
    }

    private static void aFaultLeavesRules() {
        for (String text : new String[] {"by let;let", "by let;let one 16 any all;", "by let;" + LET_ALL.repeat(13)}) {
            RulesTried x = new RulesTried();
            rules(x, 2, "by last;" + LET_ALL + STOP_ALL, 2);
            rules(x, 2, text, NONE);
            due("lines still", x.count(6), 2);
            due("by last still", x.count(10), 1);
            due("line 1 still", x.line(2, 1, 0), 0);
        }
    }

    private static void noSuchSlot() {
        for (int slot : Checks.outside(3)) {
            RulesTried x = new RulesTried();
            rules(x, 0, "let one 16 any all;", NONE);
            Checks.put(x, LET_ALL);
            due("rules(" + slot + ")", x.rules(slot), -2);
            due("fault(0), the earlier one's", x.fault(0), 2);
            due("fault(1)", x.fault(1), 8);
            due("the tape stays", x.end(17), NONE);
            due("rules(3)", x.rules(3), 1);
            due("lines", x.count(7), 1);
        }
        RulesTried x = new RulesTried();
        Checks.put(x, "x");
        due("a fault in no slot", x.rules(4), -2);
        due("is not told", x.fault(0), 0);
        due("nor its place", x.fault(1), NONE);
    }

    private static void latestFault() {
        RulesTried x = new RulesTried();
        rules(x, 0, "x", NONE);
        rules(x, 1, "let one 16 any all;", NONE);
        due("the latest", x.fault(0), 2);
        due("its place", x.fault(1), 8);
        due("no such slot", x.rules(4), -2);
        due("is not the latest", x.fault(0), 2);
        rules(x, 2, LET_ALL.repeat(13), NONE);
        due("the latest", x.fault(0), 3);
        due("its place", x.fault(1), 192);
        rules(x, 2, "x", NONE);
        due("the latest", x.fault(0), 1);
        due("its place", x.fault(1), 0);
        rules(x, 3, "", 0);
        due("without", x.fault(0), 0);
        due("no place", x.fault(1), NONE);
    }

    private static void anotherWhatOfFault() {
        RulesTried x = new RulesTried();
        rules(x, 0, "let", NONE);
        for (int what : Checks.outside(1)) {
            due("fault(" + what + ")", x.fault(what), NONE);
        }
    }

    private static void seventeenthPerson() {
        RulesTried x = new RulesTried();
        for (int groups : Checks.outside(255)) {
            due("groups " + groups, x.person(groups, 0), NONE);
        }
        for (int clearance : Checks.outside(5)) {
            due("clearance " + clearance, x.person(0, clearance), NONE);
        }
        due("both", x.person(256, 6), NONE);
        due("none came", x.count(0), 0);
        for (int i = 0; i < 16; i++) {
            due("person " + i, x.person(255, 5), i);
        }
        for (int i = 0; i < 3; i++) {
            due("there are 16", x.person(0, 0), NONE);
        }
        due("how many", x.count(0), 16);
        due("the last is as it was", x.tell(15, 0), 255);
    }

    private static void seventeenthThing() {
        RulesTried x = new RulesTried();
        x.person(0, 0);
        for (int kind : Checks.outside(7)) {
            due("kind " + kind, x.thing(kind, 0, 0), NONE);
        }
        for (int level : Checks.outside(5)) {
            due("level " + level, x.thing(0, level, 0), NONE);
        }
        for (int owner : Checks.outside(0)) {
            due("owner " + owner, x.thing(0, 0, owner), NONE);
        }
        due("none came", x.count(1), 0);
        for (int i = 0; i < 16; i++) {
            due("thing " + i, x.thing(7, 5, 0), i);
        }
        for (int i = 0; i < 3; i++) {
            due("there are 16", x.thing(0, 0, 0), NONE);
        }
        due("how many", x.count(1), 16);
        due("the last is as it was", x.tell(15, 2), 7);
    }

    private static void personsRow(RulesTried x, int person, int groups, int clearance) {
        due("groups of " + person, x.tell(person, 0), groups);
        due("clearance of " + person, x.tell(person, 1), clearance);
    }

    private static void movesOrNot() {
        RulesTried x = bench();
        due("highest", x.moves(1, 255, 5), true);
        personsRow(x, 1, 255, 5);
        due("lowest", x.moves(1, 0, 0), true);
        personsRow(x, 1, 0, 0);
        due("to the same", x.moves(1, 0, 0), true);
        for (int person : Checks.outside(1)) {
            due("person " + person, x.moves(person, 7, 1), false);
        }
        for (int groups : Checks.outside(255)) {
            due("groups " + groups, x.moves(1, groups, 3), false);
        }
        for (int clearance : Checks.outside(5)) {
            due("clearance " + clearance, x.moves(1, 3, clearance), false);
        }
        personsRow(x, 0, 1, 2);
        personsRow(x, 1, 0, 0);
    }

    private static void thingsRow(RulesTried x, int thing, int kind, int level, int owner) {
        due("kind of " + thing, x.tell(thing, 2), kind);
        due("level of " + thing, x.tell(thing, 3), level);
        due("owner of " + thing, x.tell(thing, 4), owner);
    }

    private static void givesOrNot() {
        RulesTried x = bench();
        due("highest", x.gives(0, 1, 5), true);
        thingsRow(x, 0, 3, 5, 1);
        due("lowest", x.gives(0, 0, 0), true);
        thingsRow(x, 0, 3, 0, 0);
        due("to the same", x.gives(0, 0, 0), true);
        for (int n : Checks.outside(1)) {
            due("thing " + n, x.gives(n, 0, 3), false);
            due("owner " + n, x.gives(0, n, 3), false);
        }
        for (int level : Checks.outside(5)) {
            due("level " + level, x.gives(0, 1, level), false);
        }
        thingsRow(x, 0, 3, 0, 0);
        thingsRow(x, 1, 7, 5, 1);
    }

    private static void tellOrNone() {
        RulesTried x = bench();
        x.person(0, 0);
        personsRow(x, 0, 1, 2);
        personsRow(x, 2, 0, 0);
        thingsRow(x, 1, 7, 5, 1);
        thingsRow(x, 2, NONE, NONE, NONE);
        for (int k : Checks.outside(2)) {
            for (int what = 0; what <= 4; what++) {
                due("tell(" + k + ", " + what + ")", x.tell(k, what), NONE);
            }
        }
        for (int what : Checks.outside(4)) {
            due("tell(0, " + what + ")", x.tell(0, what), NONE);
        }
    }

    private static void decideByNone() {
        RulesTried x = bench();
        rules(x, 0, "let one 1 any all;stop one 1 any all;", 2);
        due("by line 0", x.decide(0, 1, 3, 1, 23, true), 0);
        due("let", x.decide(0, 1, 3, 1, 23, false), 1);
        due("by none", x.decide(0, 0, 3, 1, 23, true), NONE);
        due("stopped", x.decide(0, 0, 3, 1, 23, false), 0);
        due("without rules, by none", x.decide(1, 0, 0, 0, 0, true), NONE);
        due("without rules, stopped", x.decide(1, 0, 0, 0, 0, false), 0);
    }

    private static void cantBeDecided() {
        RulesTried x = bench();
        rules(x, 0, LET_ALL, 1);
        int[] tops = {3, 1, 3, 1, 23};
        for (int i = 0; i < 5; i++) {
            for (int n : Checks.outside(tops[i])) {
                int[] a = new int[5];
                a[i] = n;
                due("argument " + i + " is " + n, x.decide(a[0], a[1], a[2], a[3], a[4], false), -2);
                due("argument " + i + " is " + n + ", which", x.decide(a[0], a[1], a[2], a[3], a[4], true), -2);
            }
        }
        due("all at their highest", x.decide(3, 1, 3, 1, 23, false), 0);
    }

    private static void cantBeAsked() {
        RulesTried x = bench();
        int[] tops = {1, 3, 1, 23};
        for (int i = 0; i < 4; i++) {
            for (int n : Checks.outside(tops[i])) {
                int[] a = new int[4];
                a[i] = n;
                due("argument " + i + " is " + n, x.ask(a[0], a[1], a[2], a[3]), NONE);
            }
        }
        due("none came", x.count(2), 0);
        due("the lowest", x.ask(0, 0, 0, 0), 0);
        due("the highest", x.ask(1, 3, 1, 23), 1);
        for (int i = 2; i < 200; i++) {
            due("ask " + i, x.ask(0, 0, 0, 0), i);
        }
        for (int i = 0; i < 3; i++) {
            due("there are 200", x.ask(1, 1, 1, 1), NONE);
        }
        due("how many", x.count(2), 200);
    }

    private static void marks() {
        RulesTried x = bench();
        x.ask(0, 0, 0, 0);
        x.ask(1, 0, 0, 0);
        for (int how = -1; how <= 1; how++) {
            due("mark(1, " + how + ")", x.mark(1, how), true);
            due("book(1, 4)", x.book(1, 4), how);
            due("marked ones", x.count(3), how == NONE ? 0 : 1);
            due("the same again", x.mark(1, how), true);
            due("marked ones", x.count(3), how == NONE ? 0 : 1);
        }
        due("no more", x.mark(1, NONE), true);
        due("marked ones", x.count(3), 0);
    }

    private static void noSuchMark() {
        RulesTried x = bench();
        x.ask(0, 0, 0, 0);
        x.mark(0, 1);
        for (int how : Checks.outside(1)) {
            if (how != NONE) {
                due("mark(0, " + how + ")", x.mark(0, how), false);
            }
        }
        for (int ask : Checks.outside(0)) {
            due("mark(" + ask + ", 0)", x.mark(ask, 0), false);
            due("mark(" + ask + ", NONE)", x.mark(ask, NONE), false);
        }
        due("as it was", x.book(0, 4), 1);
        due("marked ones", x.count(3), 1);
    }

    private static void bookOrNone() {
        RulesTried x = bench();
        x.ask(1, 3, 1, 23);
        int[] want = {1, 3, 1, 23, NONE};
        for (int what = 0; what < 5; what++) {
            due("book(0, " + what + ")", x.book(0, what), want[what]);
            for (int ask : Checks.outside(0)) {
                due("book(" + ask + ", " + what + ")", x.book(ask, what), NONE);
            }
        }
        x.ask(0, 0, 0, 0);
        x.mark(0, 1);
        for (int what : Checks.outside(4)) {
            due("book(0, " + what + ")", x.book(0, what), NONE);
            due("book(1, " + what + ")", x.book(1, what), NONE);
        }
    }

    /** A full BOOK: ask i is person i / 100, ACT 0 but for the last one (3), at hour i % 24. */
    private static RulesTried full() {
        RulesTried x = bench();
        for (int i = 0; i < 200; i++) {
            x.ask(i / 100, i == 199 ? 3 : 0, 0, i % 24);
        }
        return x;
    }

    private static void triedOrNone() {
        RulesTried x = full();
        rules(x, 0, LET_ALL, 1);
        rules(x, 1, "let all drop all;", 1);
        due("all 200", x.tried(0), 200);
        due("the last alone", x.tried(1), 1);
        due("without rules", x.tried(2), 0);
        for (int slot : Checks.outside(3)) {
            due("tried(" + slot + ")", x.tried(slot), NONE);
        }
        due("an empty book", bench().tried(0), 0);
        RulesTried empty = bench();
        rules(empty, 0, LET_ALL, 1);
        due("an empty book and a let", empty.tried(0), 0);
    }

    private static void decidesOrNone() {
        RulesTried x = full();
        rules(x, 0, "stop one 0 any all;let all drop all;let all any all;let all any all;", 4);
        int[] want = {100, 1, 99, 0};
        for (int line = 0; line < 4; line++) {
            due("decides(0, " + line + ")", x.decides(0, line), want[line]);
        }
        for (int line : Checks.outside(3)) {
            due("decides(0, " + line + ")", x.decides(0, line), NONE);
        }
        for (int slot : Checks.outside(3)) {
            due("decides(" + slot + ", 0)", x.decides(slot, 0), NONE);
        }
        due("without rules", x.decides(1, 0), NONE);
        rules(x, 1, "stop one 0 any all;", 1);
        due("by no line is no line", x.decides(1, NONE), NONE);
        RulesTried empty = bench();
        rules(empty, 0, LET_ALL, 1);
        due("an empty book", empty.decides(0, 0), 0);
        due("behind its lines", empty.decides(0, 1), NONE);
    }

    /** The same as decide() tells, of each ASK: people, ACTS, THINGS and HOURS all count. */
    private static void bookAsDecided() {
        for (String by : new String[] {"", "by last;", "by stop;", "by let;"}) {
            RulesTried x = bench();
            rules(x, 0, by + "let one 0 any thing 0 when hour<9;stop all write all;let all any thing 1 when hour>8;", 3);
            rules(x, 1, by + "stop all any thing 1 when hour=3;let one 1 read all;", 2);
            int[] decided = new int[3];
            int let = 0;
            int lost = 0;
            for (int i = 0; i < 96; i++) {
                int ask = x.ask(i % 2, i / 2 % 4, i / 8 % 2, i / 4);
                int line = x.decide(0, i % 2, i / 2 % 4, i / 8 % 2, i / 4, true);
                int zero = line == 0 || line == 2 ? 1 : 0;
                if (line != NONE) {
                    decided[line]++;
                }
                let += zero;
                if (zero > x.decide(1, i % 2, i / 2 % 4, i / 8 % 2, i / 4, false)) {
                    due(by + " lost " + lost, x.lost(0, 1, lost), ask);
                    lost++;
                }
            }
            due(by + " lost no more", x.lost(0, 1, lost), NONE);
            due(by + " tried", x.tried(0), let);
            for (int line = 0; line < 3; line++) {
                due(by + " decides " + line, x.decides(0, line), decided[line]);
            }
        }
    }

    private static void lostOrNone() {
        RulesTried x = full();
        rules(x, 0, LET_ALL, 1);
        rules(x, 1, "stop all drop all;stop one 0 any all;let all any all;", 3);
        due("k 0", x.lost(0, 1, 0), 0);
        due("k 99", x.lost(0, 1, 99), 99);
        due("k 100", x.lost(0, 1, 100), 199);
        due("k 101", x.lost(0, 1, 101), NONE);
        due("all 200, the last", x.lost(0, 2, 199), 199);
        due("all 200, one behind", x.lost(0, 2, 200), NONE);
        for (int k : Checks.outside(199)) {
            due("k " + k, x.lost(0, 2, k), NONE);
        }
        for (int slot : Checks.outside(3)) {
            due("slot a " + slot, x.lost(slot, 2, 0), NONE);
            due("slot b " + slot, x.lost(0, slot, 0), NONE);
        }
        due("the other way", x.lost(1, 0, 0), NONE);
        due("by itself", x.lost(0, 0, 0), NONE);
    }

    private static void idleOrNone() {
        RulesTried x = bench();
        rules(x, 0, "let one 1 drop thing 1 when hour=23;let all any all;let one 0 read thing 0 when hour=0;", 3);
        due("the very last that could be", x.idle(0, 0), false);
        due("all others", x.idle(0, 1), false);
        due("behind them", x.idle(0, 2), true);
        rules(x, 1, "by last;let one 0 read thing 0 when hour=0;let one 2 any all;", 2);
        due("the very first that could be", x.idle(1, 0), false);
        due("of one who is not there", x.idle(1, 1), true);
        rules(x, 2, "let all any all when hour<12;stop all any all when hour>5;let all any all;", 3);
        due("behind two that leave nothing between them", x.idle(2, 2), true);
        due("of what the first leaves", x.idle(2, 1), false);
        x.person(0, 0);
        due("of one who is there now", x.idle(1, 1), false);
        for (int line : Checks.outside(2)) {
            due("idle(0, " + line + ")", x.idle(0, line), false);
        }
        for (int slot : Checks.outside(3)) {
            due("idle(" + slot + ", 0)", x.idle(slot, 0), false);
        }
        due("without rules", x.idle(3, 0), false);
    }

    private static void idleIfNothingCouldBe() {
        RulesTried x = new RulesTried();
        rules(x, 0, LET_ALL, 1);
        due("nobody", x.idle(0, 0), true);
        x.person(0, 0);
        due("nothing", x.idle(0, 0), true);
        x.thing(0, 0, 0);
        due("one of each", x.idle(0, 0), false);
    }

    private static void moreOrNone() {
        RulesTried x = bench();
        rules(x, 0, LET_ALL, 1);
        rules(x, 1, "let one 1 drop thing 1 when hour=23;", 1);
        rules(x, 2, "let one 0 read thing 0 when hour=0;", 1);
        due("all", x.more(0, 3), 2 * 4 * 2 * 24);
        due("all but one", x.more(0, 1), 2 * 4 * 2 * 24 - 1);
        due("the last", x.more(1, 3), 1);
        due("the first", x.more(2, 1), 1);
        due("the other way", x.more(3, 0), 0);
        due("by itself", x.more(0, 0), 0);
        for (int slot : Checks.outside(3)) {
            due("more(" + slot + ", 0)", x.more(slot, 0), NONE);
            due("more(0, " + slot + ")", x.more(0, slot), NONE);
            due("more(" + slot + ", " + slot + ")", x.more(slot, slot), NONE);
        }
    }

    /** The same as decide() tells, of each one that could be asked. */
    private static void moreAndUnlikeAsDecided() {
        for (String by : new String[] {"", "by last;", "by stop;", "by let;"}) {
            RulesTried x = bench();
            rules(x, 0, by + "let one 0 any all when hour<5;stop all any all when hour>12;let all any level 5;let one 0 any all when hour>20;", 4);
            rules(x, 1, by + "stop all any thing 1;let all any all when hour=13 or hour=11;", 2);
            int more = 0;
            int fewer = 0;
            int first = NONE;
            for (int i = 0; i < 2 * 2 * 24; i++) {
                int zero = x.decide(0, i / 48, 0, i / 24 % 2, i % 24, false);
                int one = x.decide(1, i / 48, 0, i / 24 % 2, i % 24, false);
                more += zero > one ? 1 : 0;
                fewer += zero < one ? 1 : 0;
                first = first == NONE && zero != one ? i : first;
            }
            due(by + " more", x.more(0, 1), 4 * more);
            due(by + " fewer", x.more(1, 0), 4 * fewer);
            unlikeAt(x, 0, 1, first / 48, 0, first / 24 % 2, first % 24);
        }
    }

    private static void moreIfNothingCouldBe() {
        RulesTried x = new RulesTried();
        rules(x, 0, LET_ALL, 1);
        due("nobody", x.more(0, 1), 0);
        x.person(0, 0);
        due("nothing", x.more(0, 1), 0);
        x.thing(0, 0, 0);
        due("one of each", x.more(0, 1), 96);
    }

    private static void unlikeAt(RulesTried x, int a, int b, int... want) {
        for (int what = 0; what < 4; what++) {
            due("unlike(" + a + ", " + b + ", " + what + ")", x.unlike(a, b, what), want[what]);
        }
    }

    private static void unlikeOrNone() {
        RulesTried x = bench();
        rules(x, 0, "let one 1 drop thing 1 when hour=23;", 1);
        rules(x, 1, LET_ALL, 1);
        unlikeAt(x, 0, 3, 1, 3, 1, 23);
        unlikeAt(x, 3, 0, 1, 3, 1, 23);
        unlikeAt(x, 1, 3, 0, 0, 0, 0);
        unlikeAt(x, 1, 1, NONE, NONE, NONE, NONE);
        rules(x, 2, "by last;let all any all;let all any all;", 2);
        unlikeAt(x, 1, 2, NONE, NONE, NONE, NONE);
        for (int what : Checks.outside(3)) {
            due("unlike(1, 3, " + what + ")", x.unlike(1, 3, what), NONE);
        }
        for (int slot : Checks.outside(3)) {
            for (int what = 0; what < 4; what++) {
                due("unlike(" + slot + ", 1, " + what + ")", x.unlike(slot, 1, what), NONE);
                due("unlike(1, " + slot + ", " + what + ")", x.unlike(1, slot, what), NONE);
            }
        }
        x = new RulesTried();
        rules(x, 0, LET_ALL, 1);
        unlikeAt(x, 0, 1, NONE, NONE, NONE, NONE);
    }

    /** Ask 0, that could be let or stopped, MARKED to be let. */
    private static RulesTried marked() {
        RulesTried x = bench();
        x.mark(x.ask(0, 0, 0, 0), 1);
        return x;
    }

    private static void changeIs(RulesTried x, int k, int line, int kind) {
        due("change(" + k + ", 0)", x.change(k, 0), line);
        due("change(" + k + ", 1)", x.change(k, 1), kind);
    }

    private static void noneIsNeeded() {
        RulesTried x = marked();
        rules(x, 0, LET_ALL, 1);
        due("as it is marked", x.mend(0), 0);
        changeIs(x, 0, NONE, NONE);
        due("done", x.apply(), 1);
        x = bench();
        due("an empty book", x.mend(0), 0);
        due("done, without rules", x.apply(), 0);
        x.ask(0, 0, 0, 0);
        due("nothing marked", x.mend(3), 0);
        x.mark(0, 0);
        due("stopped by no line", x.mend(3), 0);
    }

    private static void noThreeDo() {
        RulesTried x = marked();
        due("without lines", x.mend(0), NONE);
        rules(x, 0, "by stop;" + STOP_ALL.repeat(3) + LET_ALL, 4);
        due("three", x.mend(0), 3);
        rules(x, 0, "by stop;" + STOP_ALL.repeat(4) + LET_ALL, 5);
        due("four", x.mend(0), NONE);
        x.mark(x.ask(0, 0, 0, 0), 0);
        rules(x, 0, LET_ALL, 1);
        due("one ask, both ways", x.mend(0), NONE);
    }

    private static void whatWasAtHandStays() {
        RulesTried x = marked();
        rules(x, 0, "stop one 1 any all;stop all any all;", 2);
        due("mend(0)", x.mend(0), 1);
        for (int slot : Checks.outside(3)) {
            due("mend(" + slot + ")", x.mend(slot), NONE);
            changeIs(x, 0, 1, 1);
        }
        due("no 3 do", x.mend(3), NONE);
        changeIs(x, 0, 1, 1);
        rules(x, 1, LET_ALL, 1);
        due("that of slot 0 is done", x.apply(), 2);
        due("to slot 0", x.line(0, 1, 0), 1);
        due("mend(1)", x.mend(1), 0);
        changeIs(x, 0, NONE, NONE);
    }

    private static void changeOrNone() {
        RulesTried x = marked();
        changeIs(x, 0, NONE, NONE);
        rules(x, 0, "by stop;" + "stop one 1 any all;".repeat(8) + STOP_ALL.repeat(3) + LET_ALL, 12);
        due("mend", x.mend(0), 3);
        changeIs(x, 0, 8, 0);
        changeIs(x, 1, 9, 0);
        changeIs(x, 2, 10, 0);
        for (int k : Checks.outside(2)) {
            changeIs(x, k, NONE, NONE);
        }
        for (int what : Checks.outside(1)) {
            due("change(0, " + what + ")", x.change(0, what), NONE);
        }
        x.mark(0, NONE);
        due("mend, none is needed", x.mend(0), 0);
        changeIs(x, 0, NONE, NONE);
    }

    private static void rulesStillThose() {
        RulesTried x = marked();
        rules(x, 0, "stop all any all;let all any all when hour=0;", 2);
        due("mend", x.mend(0), 1);
        rules(x, 0, "let", NONE);
        rules(x, 1, LET_ALL, 1);
        x.mark(0, 0);
        x.moves(0, 255, 5);
        due("a fault, another slot, other marks and people leave them", x.apply(), 1);
        due("done as it was made", x.line(0, 0, 0), 1);
    }

    private static void othersAreThere() {
        RulesTried x = marked();
        rules(x, 0, STOP_ALL, 1);
        due("mend", x.mend(0), 1);
        rules(x, 0, "stop all read all;", 1);
        due("others", x.apply(), NONE);
        due("they stay", x.line(0, 0, 0), 0);
        due("still at hand", x.change(0, 1), 1);
        rules(x, 0, STOP_ALL, 1);
        due("others, told alike", x.apply(), NONE);
        due("they stay", x.line(0, 0, 0), 0);
        due("mend anew", x.mend(0), 1);
        due("done", x.apply(), 1);
    }

    private static void doneAlready() {
        RulesTried x = marked();
        rules(x, 0, STOP_ALL, 1);
        due("mend", x.mend(0), 1);
        due("done", x.apply(), 1);
        due("done already", x.apply(), NONE);
        due("it lets still", x.line(0, 0, 0), 1);
        due("none is needed", x.mend(0), 0);
        due("none is done", x.apply(), 1);
        due("none is done already", x.apply(), NONE);
    }

    private static void noneAtHand() {
        RulesTried x = marked();
        rules(x, 0, STOP_ALL, 1);
        due("none", x.apply(), NONE);
        due("no 3 do", x.mend(1), NONE);
        due("none still", x.apply(), NONE);
        x.image(0);
        due("mend", x.mend(0), 1);
        x.again(0);
        due("none any more", x.apply(), NONE);
        due("the rules are as they were", x.line(0, 0, 0), 0);
    }

    private static void howManyThen() {
        RulesTried x = marked();
        rules(x, 0, "by last;let all read all;stop all any all when hour=0;stop one 1 drop level 3;", 3);
        due("mend", x.mend(0), 1);
        changeIs(x, 0, 1, 0);
        due("one left out", x.apply(), 2);
        due("how many", x.count(4), 2);
        due("by last still", x.count(8), 1);
        due("the first", x.line(0, 0, 3), 0);
        due("the third is the second now", x.line(0, 1, 5), 3);
        due("no third", x.line(0, 2, 0), NONE);
        x.mark(0, 0);
        due("mend", x.mend(0), 1);
        due("another left out", x.apply(), 1);
        rules(x, 1, LET_ALL, 1);
        due("mend", x.mend(1), 1);
        due("the only one left out", x.apply(), 0);
    }

    private static void lineOrNone() {
        RulesTried x = new RulesTried();
        rules(x, 0, "let all any all;stop group 7 drop kind 7 when owner;let one 15 read thing 15;stop owner share level 5;"
            + "let clear 5 write all;stop group 0 any kind 0;", 6);
        int[][] want = {{1, 0, 0, 4, 0, 0, 0}, {0, 1, 7, 3, 1, 7, 1}, {1, 2, 15, 0, 2, 15, 0}, {0, 3, 0, 2, 3, 5, 0},
            {1, 4, 5, 1, 0, 0, 0}, {0, 1, 0, 4, 1, 0, 0}};
        for (int line = 0; line < 6; line++) {
            for (int what = 0; what < 7; what++) {
                due("line(0, " + line + ", " + what + ")", x.line(0, line, what), want[line][what]);
            }
        }
        for (int what : Checks.outside(6)) {
            due("line(0, 1, " + what + ")", x.line(0, 1, what), NONE);
        }
        for (int line : Checks.outside(5)) {
            due("line(0, " + line + ", 0)", x.line(0, line, 0), NONE);
        }
        for (int slot : Checks.outside(3)) {
            due("line(" + slot + ", 0, 0)", x.line(slot, 0, 0), NONE);
        }
        due("without rules", x.line(3, 0, 0), NONE);
    }

    private static void countOrNone() {
        RulesTried x = full();
        for (int i = 0; i < 200; i++) {
            x.mark(i, i % 2);
        }
        rules(x, 0, "by first;" + LET_ALL.repeat(12), 12);
        rules(x, 1, "by last;", 0);
        rules(x, 2, "by stop;" + LET_ALL, 1);
        rules(x, 3, "by let;" + LET_ALL, 1);
        int[] want = {2, 2, 200, 200, 12, 0, 1, 1, 0, 1, 2, 3};
        for (int what = 0; what < 12; what++) {
            due("count(" + what + ")", x.count(what), want[what]);
        }
        for (int what : Checks.outside(11)) {
            due("count(" + what + ")", x.count(what), NONE);
        }
    }

    private static void imagesOrNot() {
        RulesTried x = bench();
        for (int k = 0; k < 3; k++) {
            due("image(" + k + ")", x.image(k), true);
            x.person(0, 0);
        }
        for (int k : Checks.outside(2)) {
            due("image(" + k + ")", x.image(k), false);
        }
        for (int k = 2; k >= 0; k--) {
            due("again(" + k + ")", x.again(k), true);
            due("people", x.count(0), 2 + k);
        }
        due("again(2), still there", x.again(2), true);
        due("people", x.count(0), 4);
        due("image(0) anew", x.image(0), true);
        x.again(1);
        x.again(0);
        due("people", x.count(0), 4);
    }

    private static void allButTapeFaultAndMend() {
        RulesTried x = marked();
        rules(x, 0, STOP_ALL, 1);
        rules(x, 1, "let", NONE);
        due("mend", x.mend(0), 1);
        feedBlanks(x);
        due("image", x.image(0), true);
        due("the tape stays", x.end(20), 20);
        due("the fault stays", x.fault(1), 3);
        due("the mend stays", x.change(0, 1), 1);
        x.end(0);
        rules(x, 1, "let one 16 any all;", NONE);
        Checks.put(x, "xxx");
        due("again", x.again(0), true);
        due("the tape is as it was before", x.end(3), 3);
        due("no more of it", x.end(4), NONE);
        due("the fault is as it was before", x.fault(0), 2);
        due("its place too", x.fault(1), 8);
        due("no mend is at hand", x.change(0, 1), NONE);
    }

    private static void allThatIsTold() {
        RulesTried x = marked();
        rules(x, 0, "by last;stop all any all;", 1);
        x.image(1);
        x.moves(0, 255, 5);
        x.gives(0, 1, 0);
        x.person(0, 0);
        x.thing(0, 0, 0);
        x.mark(0, 0);
        x.ask(0, 0, 0, 0);
        rules(x, 0, "by let;let all any all;let all any all;", 2);
        rules(x, 3, LET_ALL, 1);
        due("again", x.again(1), true);
        personsRow(x, 0, 1, 2);
        personsRow(x, 2, NONE, NONE);
        thingsRow(x, 0, 3, 4, 0);
        thingsRow(x, 2, NONE, NONE, NONE);
        due("the mark", x.book(0, 4), 1);
        int[] want = {2, 2, 1, 1, 1, 0, 0, 0, 1, 0, 0, 0};
        for (int what = 0; what < 12; what++) {
            due("count(" + what + ")", x.count(what), want[what]);
        }
        due("line", x.line(0, 0, 0), 0);
        due("what came later is not there", x.ask(2, 0, 0, 0), NONE);
        due("numbers go on from there", x.person(0, 0), 2);
    }

    private static void fullImage() {
        RulesTried x = full();
        for (int i = 2; i < 16; i++) {
            x.person(i, 0);
            x.thing(0, 0, i);
        }
        x.image(2);
        for (int i = 0; i < 16; i++) {
            x.moves(i, 255, 5);
            x.gives(i, 0, 5);
        }
        for (int i = 190; i < 200; i++) {
            x.mark(i, 1);
        }
        due("a full bench", x.again(2), true);
        for (int i = 2; i < 16; i++) {
            personsRow(x, i, i, 0);
            thingsRow(x, i, 0, 0, i);
        }
        due("no marks", x.count(3), 0);
        due("people", x.count(0), 16);
        due("things", x.count(1), 16);
        due("asks", x.count(2), 200);
        personsRow(x, 15, 15, 0);
        thingsRow(x, 15, 0, 0, 15);
        due("the last ask", x.book(199, 1), 3);
        due("no room", x.ask(0, 0, 0, 0), NONE);
    }

    private static void emptyImage() {
        RulesTried x = new RulesTried();
        x.image(0);
        x.person(0, 0);
        x.thing(0, 0, 0);
        x.ask(0, 0, 0, 0);
        rules(x, 0, LET_ALL, 1);
        due("again", x.again(0), true);
        for (int what = 0; what < 12; what++) {
            due("count(" + what + ")", x.count(what), 0);
        }
        due("no thing without its owner", x.thing(0, 0, 0), NONE);
    }

    private static void againLeavesNoMend() {
        RulesTried x = marked();
        rules(x, 0, STOP_ALL, 1);
        due("mend", x.mend(0), 1);
        x.image(0);
        due("again, with the very rules that it was made for", x.again(0), true);
        changeIs(x, 0, NONE, NONE);
        due("apply", x.apply(), NONE);
        due("mend anew", x.mend(0), 1);
        due("apply", x.apply(), 1);
    }

    private static void noSuchImage() {
        RulesTried x = marked();
        x.image(1);
        rules(x, 0, STOP_ALL, 1);
        due("mend", x.mend(0), 1);
        due("again(0)", x.again(0), false);
        due("again(2)", x.again(2), false);
        for (int k : Checks.outside(2)) {
            due("again(" + k + ")", x.again(k), false);
        }
        due("nothing is changed", x.count(4), 1);
        due("the mend is at hand", x.apply(), 1);
        due("again(1)", x.again(1), true);
        due("no rules yet", x.count(4), 0);
    }

    private static void textPromises() {
        Checks.sentence("1: No PEOPLE, no THINGS, an empty BOOK;", PromiseEdgesTest::nothingAtFirst);
        Checks.sentence("1: SLOTS without RULES;", PromiseEdgesTest::slotsWithoutRules);
        Checks.sentence("1: the tape is empty", PromiseEdgesTest::emptyTape);
        Checks.sentence("1: no MEND, no images.", PromiseEdgesTest::noMendNoImages);
        Checks.sentence("2: of each number the highest first", PromiseEdgesTest::highestFirst);
        Checks.sentence("2: NONE, and nothing comes, if there would be more than 600.", PromiseEdgesTest::moreThan600);
        Checks.sentence("3: The tape has its first n bytes alone: n.", PromiseEdgesTest::firstBytesAlone);
        Checks.sentence("3: NONE if it has not so many, or n is below 0.", PromiseEdgesTest::notSoMany);
        Checks.sentence("4: The tape is taken", PromiseEdgesTest::tapeIsTaken);
        Checks.sentence("4: NONE: a FAULT.", PromiseEdgesTest::aFaultLeavesRules);
        Checks.sentence("4: -2, and the tape stays: there is no such SLOT.", PromiseEdgesTest::noSuchSlot);
        Checks.sentence("5: Of the latest rules() (that did not tell -2)", PromiseEdgesTest::latestFault);
        Checks.sentence("5: NONE for another what.", PromiseEdgesTest::anotherWhatOfFault);
    }

    private static void toldPromises() {
        Checks.sentence("6: NONE: there are 16, or other GROUPS or CLEARANCE.", PromiseEdgesTest::seventeenthPerson);
        Checks.sentence("7: NONE: there are 16, or another KIND, LEVEL, OWNER.", PromiseEdgesTest::seventeenthThing);
        Checks.sentence("8: False: there is none such, or they can't be.", PromiseEdgesTest::movesOrNot);
        Checks.sentence("9: False: there is none such, or they can't be.", PromiseEdgesTest::givesOrNot);
        Checks.sentence("10: NONE if there is none such, or for another what.", PromiseEdgesTest::tellOrNone);
        Checks.sentence("11: by (which true) the LINE, NONE if it is none.", PromiseEdgesTest::decideByNone);
        Checks.sentence("11: -2: there is no such SLOT, or it can't be asked.", PromiseEdgesTest::cantBeDecided);
        Checks.sentence("12: NONE: it can't be asked, or there are 200.", PromiseEdgesTest::cantBeAsked);
        Checks.sentence("13: 1: to be let, 0: to be stopped, NONE: no more: true.", PromiseEdgesTest::marks);
        Checks.sentence("13: False: there is none such, or another mark.", PromiseEdgesTest::noSuchMark);
        Checks.sentence("14: NONE if there is none such, or for another what.", PromiseEdgesTest::bookOrNone);
    }

    private static void triedPromises() {
        Checks.sentence("15: NONE: there is no such SLOT.", PromiseEdgesTest::triedOrNone);
        Checks.sentence("16: NONE if there is none such.", PromiseEdgesTest::decidesOrNone);
        Checks.sentence("15 to 17: how many ASKS are let; a LINE of a SLOT decides; that SLOT a lets and SLOT b stops",
            PromiseEdgesTest::bookAsDecided);
        Checks.sentence("17: NONE if there is none such (SLOT, too).", PromiseEdgesTest::lostOrNone);
        Checks.sentence("18: False, too, if there is none such.", PromiseEdgesTest::idleOrNone);
        Checks.sentence("18: no ask that COULD BE is decided by it.", PromiseEdgesTest::idleIfNothingCouldBe);
        Checks.sentence("19: NONE if there is none such.", PromiseEdgesTest::moreOrNone);
        Checks.sentence("19: How many that COULD BE ASKED", PromiseEdgesTest::moreIfNothingCouldBe);
        Checks.sentence("19 and 20: are let by SLOT a and stopped by SLOT b; on which two SLOTS do not decide alike",
            PromiseEdgesTest::moreAndUnlikeAsDecided);
        Checks.sentence("20: NONE: they are EQUAL, there is no such SLOT, or for another what.", PromiseEdgesTest::unlikeOrNone);
    }

    private static void mendPromises() {
        Checks.sentence("21: how many CHANGES (0: none is needed).", PromiseEdgesTest::noneIsNeeded);
        Checks.sentence("21: NONE: no 3 do", PromiseEdgesTest::noThreeDo);
        Checks.sentence("21: or there is no such SLOT (what was at hand stays then).", PromiseEdgesTest::whatWasAtHandStays);
        Checks.sentence("22: NONE if there is none such, or for another what.", PromiseEdgesTest::changeOrNone);
        Checks.sentence("23: if the RULES there are still those", PromiseEdgesTest::rulesStillThose);
        Checks.sentence("23: (also done to already: not)", PromiseEdgesTest::doneAlready);
        Checks.sentence("23: how many LINES it has then.", PromiseEdgesTest::howManyThen);
        Checks.sentence("23: NONE: there is none at hand", PromiseEdgesTest::noneAtHand);
        Checks.sentence("23: or others are there.", PromiseEdgesTest::othersAreThere);
    }

    private static void lookedAtPromises() {
        Checks.sentence("24: NONE if there is none such, or for another what.", PromiseEdgesTest::lineOrNone);
        Checks.sentence("25: NONE for another what.", PromiseEdgesTest::countOrNone);
        Checks.sentence("26: as it is now: true; false for another k.", PromiseEdgesTest::imagesOrNot);
        Checks.sentence("26: but the tape, the FAULT and the MEND", PromiseEdgesTest::allButTapeFaultAndMend);
        Checks.sentence("26: Image k (0 .. 2) is all that is told", PromiseEdgesTest::allThatIsTold);
        Checks.sentence("27: All that is as image k has it, full", PromiseEdgesTest::fullImage);
        Checks.sentence("27: All that is as image k has it, empty", PromiseEdgesTest::emptyImage);
        Checks.sentence("27: (no MEND is at hand then)", PromiseEdgesTest::againLeavesNoMend);
        Checks.sentence("27: false if there is none such.", PromiseEdgesTest::noSuchImage);
    }

    public static void main(String[] args) {
        textPromises();
        toldPromises();
        triedPromises();
        mendPromises();
        lookedAtPromises();
        Checks.finish();
    }
}
