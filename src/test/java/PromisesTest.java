/** Each promise of the document by itself: ordinary inputs, the edges that it names, and wrong inputs. */
public final class PromisesTest {
    private static final int NONE = RulesTried.NONE;
    private static final int BLANKS = 0x20202020;
    private static final String LET_ALL = "let all any all;";

    private static void due(String call, int got, int want) {
        Checks.due(call, got, want);
    }

    private static void due(String call, boolean got, boolean want) {
        Checks.due(call, got, want);
    }

    private static int feedBlanks(RulesTried x) {
        return x.feed(BLANKS, BLANKS, BLANKS, BLANKS, BLANKS);
    }

    private static void rules(RulesTried x, int slot, String text, int lines) {
        due("rules(" + slot + ") of " + text, Checks.rules(x, slot, text), lines);
    }

    /** Three PEOPLE, three THINGS: 0 in group 0, 1 in groups 1 and 2 with clearance 3, 2 in none with 5. */
    private static RulesTried peopled() {
        RulesTried x = new RulesTried();
        x.person(1, 0);
        x.person(6, 3);
        x.person(0, 5);
        x.thing(0, 0, 0);
        x.thing(4, 3, 1);
        x.thing(7, 5, 0);
        return x;
    }

    private static void newObject() {
        RulesTried x = new RulesTried();
        for (int what = 0; what <= 11; what++) {
            due("1: count(" + what + ")", x.count(what), 0);
        }
        due("1: fault(0)", x.fault(0), 0);
        due("1: fault(1)", x.fault(1), NONE);
        due("1: the tape is empty", x.end(1), NONE);
        due("1: no change", x.change(0, 0), NONE);
        due("1: no mend", x.apply(), NONE);
        for (int k = 0; k < 3; k++) {
            due("1: no image " + k, x.again(k), false);
        }
        due("1: nobody", x.tell(0, 0), NONE);
        due("1: nothing", x.tell(0, 2), NONE);
        due("1: no ask", x.book(0, 4), NONE);
        due("1: no line", x.line(0, 0, 0), NONE);
        due("1: NONE", RulesTried.NONE, -1);
    }

    private static void feed() {
        RulesTried x = new RulesTried();
        due("2: highest byte first", x.feed(0x6c657420, 0x616c6c20, 0x616e7920, 0x616c6c3b, 0x20202020), 20);
        due("2: as text", x.rules(0), 1);
        due("2: negative numbers are bytes too", x.feed(-1, Integer.MIN_VALUE, 0, Integer.MAX_VALUE, -2), 20);
        due("2: no text", x.rules(0), NONE);
        due("2: at 0", x.fault(1), 0);
        for (int i = 1; i <= 30; i++) {
            due("2: feed " + i, feedBlanks(x), 20 * i);
        }
        due("2: 620 are too many", feedBlanks(x), NONE);
        due("2: and nothing came", x.end(600), 600);
        due("2: 581", x.end(581), 581);
        due("2: 601 are too many", feedBlanks(x), NONE);
        due("2: nothing came", x.end(582), NONE);
        due("2: 580", x.end(580), 580);
        due("2: 600 are not", feedBlanks(x), 600);
    }

    private static void end() {
        RulesTried x = new RulesTried();
        due("3: nothing of nothing", x.end(0), 0);
        due("3: more than nothing", x.end(1), NONE);
        feedBlanks(x);
        due("3: as many", x.end(20), 20);
        due("3: below 0", x.end(-1), NONE);
        due("3: far below", x.end(Integer.MIN_VALUE), NONE);
        due("3: far above", x.end(Integer.MAX_VALUE), NONE);
        due("3: fewer", x.end(7), 7);
        due("3: those behind are gone", x.end(8), NONE);
        due("3: what comes stands behind", feedBlanks(x), 27);
        Checks.due("3: cut", x.end(0), 0);
        Checks.put(x, LET_ALL + "xxxx");
        due("3: without its end", x.end(16), 16);
        due("3: it is a text", x.rules(0), 1);
    }

    private static void rulesOfSlots() {
        RulesTried x = new RulesTried();
        rules(x, 0, LET_ALL, 1);
        due("4: the tape is taken", x.end(1), NONE);
        rules(x, 3, "by let;" + LET_ALL + LET_ALL, 2);
        due("4: lines of 0", x.count(4), 1);
        due("4: lines of 3", x.count(7), 2);
        rules(x, 0, "let all any", NONE);
        due("4: a fault takes the tape", x.end(1), NONE);
        due("4: a fault leaves the rules", x.count(4), 1);
        Checks.put(x, LET_ALL);
        due("4: no slot 4", x.rules(4), -2);
        due("4: no slot -1", x.rules(-1), -2);
        due("4: no slot far off", x.rules(Integer.MIN_VALUE), -2);
        due("4: the tape stays", x.end(16), 16);
        due("4: slot 1", x.rules(1), 1);
        rules(x, 3, "", 0);
        due("4: no lines are rules too", x.count(7), 0);
        due("4: by first again", x.count(11), 0);
    }

    private static void fault() {
        RulesTried x = new RulesTried();
        rules(x, 0, "let all any", NONE);
        due("5: fault", x.fault(0), 1);
        due("5: place", x.fault(1), 11);
        due("5: what -1", x.fault(-1), NONE);
        due("5: what 2", x.fault(2), NONE);
        due("5: no such slot", x.rules(9), -2);
        due("5: is not the latest", x.fault(0), 1);
        rules(x, 0, "let one 16 any all;", NONE);
        due("5: fault", x.fault(0), 2);
        due("5: place", x.fault(1), 8);
        rules(x, 0, LET_ALL.repeat(13), NONE);
        due("5: fault", x.fault(0), 3);
        due("5: place", x.fault(1), 192);
        rules(x, 1, LET_ALL, 1);
        due("5: without", x.fault(0), 0);
        due("5: no place", x.fault(1), NONE);
    }

    private static void person() {
        RulesTried x = new RulesTried();
        due("6: groups -1", x.person(-1, 0), NONE);
        due("6: groups 256", x.person(256, 0), NONE);
        due("6: clearance -1", x.person(0, -1), NONE);
        due("6: clearance 6", x.person(0, 6), NONE);
        due("6: none came", x.count(0), 0);
        for (int i = 0; i < 16; i++) {
            due("6: person " + i, x.person(255 - i, i % 6), i);
        }
        due("6: a 17th", x.person(0, 0), NONE);
        due("6: there are 16", x.count(0), 16);
        due("6: groups of 15", x.tell(15, 0), 240);
        due("6: clearance of 15", x.tell(15, 1), 3);
    }

    private static void thing() {
        RulesTried x = new RulesTried();
        due("7: without people", x.thing(0, 0, 0), NONE);
        x.person(0, 0);
        due("7: kind -1", x.thing(-1, 0, 0), NONE);
        due("7: kind 8", x.thing(8, 0, 0), NONE);
        due("7: level -1", x.thing(0, -1, 0), NONE);
        due("7: level 6", x.thing(0, 6, 0), NONE);
        due("7: owner -1", x.thing(0, 0, -1), NONE);
        due("7: owner 1", x.thing(0, 0, 1), NONE);
        due("7: none came", x.count(1), 0);
        x.person(0, 0);
        for (int i = 0; i < 16; i++) {
            due("7: thing " + i, x.thing(i % 8, i % 6, i % 2), i);
        }
        due("7: a 17th", x.thing(0, 0, 0), NONE);
        due("7: kind of 15", x.tell(15, 2), 7);
        due("7: level of 15", x.tell(15, 3), 3);
        due("7: owner of 15", x.tell(15, 4), 1);
    }

    private static void moves() {
        RulesTried x = peopled();
        due("8: moves", x.moves(1, 255, 5), true);
        due("8: groups", x.tell(1, 0), 255);
        due("8: clearance", x.tell(1, 1), 5);
        due("8: to the same", x.moves(1, 255, 5), true);
        due("8: nobody -1", x.moves(-1, 0, 0), false);
        due("8: nobody 3", x.moves(3, 0, 0), false);
        due("8: groups -1", x.moves(1, -1, 0), false);
        due("8: groups 256", x.moves(1, 256, 0), false);
        due("8: clearance -1", x.moves(1, 0, -1), false);
        due("8: clearance 6", x.moves(1, 0, 6), false);
        due("8: refused changes nothing", x.tell(1, 0), 255);
        due("8: others stay", x.tell(0, 0), 1);
    }

    private static void gives() {
        RulesTried x = peopled();
        due("9: gives", x.gives(1, 2, 4), true);
        due("9: kind stays", x.tell(1, 2), 4);
        due("9: level", x.tell(1, 3), 4);
        due("9: owner", x.tell(1, 4), 2);
        due("9: nothing -1", x.gives(-1, 0, 0), false);
        due("9: nothing 3", x.gives(3, 0, 0), false);
        due("9: owner -1", x.gives(1, -1, 0), false);
        due("9: owner 3", x.gives(1, 3, 0), false);
        due("9: level -1", x.gives(1, 0, -1), false);
        due("9: level 6", x.gives(1, 0, 6), false);
        due("9: refused changes nothing", x.tell(1, 4), 2);
    }

    private static void tell() {
        RulesTried x = peopled();
        x.person(0, 1);
        int[][] want = {{1, 0, 0, 0, 0}, {6, 3, 4, 3, 1}, {0, 5, 7, 5, 0}, {0, 1, NONE, NONE, NONE}};
        for (int k = 0; k < 4; k++) {
            for (int what = 0; what < 5; what++) {
                due("10: tell(" + k + ", " + what + ")", x.tell(k, what), want[k][what]);
            }
            due("10: what -1", x.tell(k, -1), NONE);
            due("10: what 5", x.tell(k, 5), NONE);
        }
        due("10: nobody -1", x.tell(-1, 0), NONE);
        due("10: nobody 4", x.tell(4, 1), NONE);
        due("10: nothing -1", x.tell(-1, 2), NONE);
        due("10: far off", x.tell(Integer.MAX_VALUE, 4), NONE);
    }

    private static void decide() {
        RulesTried x = peopled();
        String lines = "let group 0 read all;stop all any level 3;let owner any all when hour>7 and hour<18;";
        rules(x, 0, lines, 3);
        due("11: let by 0", x.decide(0, 0, 0, 2, 3, false), 1);
        due("11: which", x.decide(0, 0, 0, 2, 3, true), 0);
        due("11: stopped by 1", x.decide(0, 1, 1, 1, 9, false), 0);
        due("11: which", x.decide(0, 1, 1, 1, 9, true), 1);
        due("11: the owner at 8", x.decide(0, 0, 1, 0, 8, true), 2);
        due("11: at 17", x.decide(0, 0, 1, 0, 17, false), 1);
        due("11: not at 18", x.decide(0, 0, 1, 0, 18, false), 0);
        due("11: by none", x.decide(0, 0, 1, 0, 7, true), NONE);
        rules(x, 1, "by last;" + lines, 3);
        due("11: by last", x.decide(1, 1, 1, 1, 9, true), 2);
        due("11: lets", x.decide(1, 1, 1, 1, 9, false), 1);
        due("11: slots without rules stop", x.decide(3, 0, 0, 0, 0, false), 0);
        due("11: by none", x.decide(3, 0, 0, 0, 0, true), NONE);
        int[][] wrong = {{-1, 0, 0, 0, 0}, {4, 0, 0, 0, 0}, {0, -1, 0, 0, 0}, {0, 3, 0, 0, 0}, {0, 0, -1, 0, 0}, {0, 0, 4, 0, 0},
            {0, 0, 0, -1, 0}, {0, 0, 0, 3, 0}, {0, 0, 0, 0, -1}, {0, 0, 0, 0, 24}};
        for (int[] w : wrong) {
            due("11: can't be asked", x.decide(w[0], w[1], w[2], w[3], w[4], false), -2);
            due("11: can't be asked, which", x.decide(w[0], w[1], w[2], w[3], w[4], true), -2);
        }
    }

    private static void decidedByStopAndLet() {
        RulesTried x = peopled();
        String lines = "let one 0 read all;stop one 1 any all;let all any all;stop all drop all;let one 1 drop all;";
        rules(x, 0, "by stop;" + lines, 5);
        rules(x, 1, "by let;" + lines, 5);
        int[][] asked = {{0, 0}, {0, 1}, {0, 3}, {1, 0}, {1, 3}};
        int[] byStop = {0, 2, 3, 1, 1};
        int[] byLet = {0, 2, 2, 2, 2};
        for (int i = 0; i < asked.length; i++) {
            due("11: by stop", x.decide(0, asked[i][0], asked[i][1], 0, 0, true), byStop[i]);
            due("11: by let", x.decide(1, asked[i][0], asked[i][1], 0, 0, true), byLet[i]);
        }
        rules(x, 2, "by let;stop all any all;stop all read all;let all write all;", 3);
        due("11: by let, the first stop", x.decide(2, 0, 0, 0, 0, true), 0);
        due("11: by let, a let", x.decide(2, 0, 1, 0, 0, true), 2);
    }

    /** Of each WHO and WHAT: those for whom a LINE HOLDS, of three PEOPLE and three THINGS, as bits. */
    private static void holds(String who, int people, String what, int things) {
        RulesTried x = peopled();
        rules(x, 0, "let " + who + " any " + what + ";", 1);
        for (int person = 0; person < 3; person++) {
            for (int thing = 0; thing < 3; thing++) {
                boolean want = (people >> person & 1) != 0 && (things >> thing & 1) != 0;
                due("11: " + who + ", " + what, x.decide(0, person, 1, thing, 0, false), want ? 1 : 0);
            }
        }
    }

    private static void lineHolds() {
        holds("all", 7, "all", 7);
        holds("group 0", 1, "kind 0", 1);
        holds("group 1", 2, "kind 4", 2);
        holds("group 2", 2, "kind 7", 4);
        holds("group 3", 0, "kind 5", 0);
        holds("one 0", 1, "thing 2", 4);
        holds("one 2", 4, "thing 0", 1);
        holds("one 3", 0, "thing 3", 0);
        holds("clear 0", 7, "level 0", 7);
        holds("clear 3", 6, "level 3", 6);
        holds("clear 4", 4, "level 4", 4);
        holds("clear 5", 4, "level 5", 4);
        holds("owner", 1, "thing 0", 1);
        holds("owner", 2, "thing 1", 2);
        holds("owner", 1, "thing 2", 4);
        String[] acts = {"read", "write", "share", "drop"};
        for (int told = 0; told < 4; told++) {
            RulesTried x = peopled();
            rules(x, 0, "let all " + acts[told] + " all;", 1);
            for (int act = 0; act < 4; act++) {
                due("11: " + acts[told], x.decide(0, 0, act, 0, 0, false), act == told ? 1 : 0);
            }
        }
    }

    /** Whether the E holds for a person in groups 1 and 2, clearance 3, who owns a thing of kind 4, level 5. */
    private static void when(String e, int hour, boolean holds) {
        RulesTried x = new RulesTried();
        x.person(6, 3);
        x.thing(4, 5, 0);
        rules(x, 0, "let all any all when " + e + ";", 1);
        due("11: when " + e + " at " + hour, x.decide(0, 0, 0, 0, hour, false), holds ? 1 : 0);
    }

    private static void whenHolds() {
        when("groups=2", 0, true);
        when("clear=3 and level=5 and kind=4 and owner", 0, true);
        when("not owner", 0, false);
        RulesTried x = peopled();
        rules(x, 0, "let all any all when owner;", 1);
        due("11: when owner, of another", x.decide(0, 1, 0, 0, 0, false), 0);
        due("11: when owner, of one", x.decide(0, 1, 0, 1, 0, false), 1);
        when("hour<hour or hour>hour", 0, false);
        when("hour=0", 0, true);
        when("hour=23", 23, true);
        when("hour=24", 0, false);
        when("hour<24 and hour<999", 23, true);
        when("hour<23", 23, false);
        when("22<hour", 23, true);
        when("23<hour", 23, false);
        when("0>hour", 0, false);
        when("1>hour", 0, true);
        when("hour=hour", 12, true);
        when("hour<hour or hour>hour", 12, false);
        when("hour=clear", 3, true);
        when("level>hour", 4, true);
        when("level>hour", 5, false);
        when("7=007", 0, true);
        when("1=2 and 1=1 or 1=1", 0, true);
        when("1=1 or 1=1 and 1=2", 0, true);
        when("(1=1 or 1=1) and 1=2", 0, false);
        when("not 1=2 and 1=1", 0, true);
        when("not 1=1 or 1=1", 0, true);
        when("not(1=1 or 1=1)", 0, false);
        when("(((((hour>3)and hour<6)or hour=9)and not hour=5)or hour=20)", 4, true);
        when("(((((hour>3)and hour<6)or hour=9)and not hour=5)or hour=20)", 5, false);
        when("(((((hour>3)and hour<6)or hour=9)and not hour=5)or hour=20)", 20, true);
    }

    private static void ask() {
        RulesTried x = peopled();
        int[][] wrong = {{-1, 0, 0, 0}, {3, 0, 0, 0}, {0, -1, 0, 0}, {0, 4, 0, 0}, {0, 0, -1, 0}, {0, 0, 3, 0}, {0, 0, 0, -1},
            {0, 0, 0, 24}};
        for (int[] w : wrong) {
            due("12: can't be asked", x.ask(w[0], w[1], w[2], w[3]), NONE);
        }
        due("12: none came", x.count(2), 0);
        for (int i = 0; i < 200; i++) {
            due("12: ask " + i, x.ask(i % 3, i % 4, i % 3, i % 24), i);
        }
        due("12: a 201st", x.ask(0, 0, 0, 0), NONE);
        due("12: there are 200", x.count(2), 200);
        due("12: the last hour", x.book(199, 3), 199 % 24);
    }

    private static void mark() {
        RulesTried x = peopled();
        x.ask(0, 0, 0, 0);
        x.ask(0, 0, 0, 1);
        due("13: to be let", x.mark(1, 1), true);
        due("13: told", x.book(1, 4), 1);
        due("13: to be stopped", x.mark(1, 0), true);
        due("13: told", x.book(1, 4), 0);
        due("13: one is marked", x.count(3), 1);
        due("13: how 2", x.mark(1, 2), false);
        due("13: how -2", x.mark(1, -2), false);
        due("13: ask -1", x.mark(-1, 1), false);
        due("13: ask 2", x.mark(2, 1), false);
        due("13: refused changes nothing", x.book(1, 4), 0);
        due("13: no more", x.mark(1, NONE), true);
        due("13: none is marked", x.count(3), 0);
    }

    private static void book() {
        RulesTried x = peopled();
        x.ask(2, 3, 1, 23);
        int[] want = {2, 3, 1, 23, NONE};
        for (int what = 0; what < 5; what++) {
            due("14: book(0, " + what + ")", x.book(0, what), want[what]);
        }
        due("14: what -1", x.book(0, -1), NONE);
        due("14: what 5", x.book(0, 5), NONE);
        due("14: ask 1", x.book(1, 0), NONE);
        due("14: ask -1", x.book(-1, 0), NONE);
    }

    /** 0 reads are let, writes stopped, shares stopped by no line, in THE BOOK of nine. */
    private static RulesTried asked() {
        RulesTried x = peopled();
        for (int i = 0; i < 9; i++) {
            x.ask(i / 3, i % 3, 0, i);
        }
        rules(x, 0, "let all read all;stop all write all;let all write all;let one 2 share all;", 4);
        rules(x, 1, "stop one 1 any all;let all read all when hour<6;", 2);
        return x;
    }

    private static void tried() {
        RulesTried x = asked();
        due("15: slot 0", x.tried(0), 4);
        due("15: slot 1", x.tried(1), 1);
        due("15: without rules", x.tried(2), 0);
        due("15: slot -1", x.tried(-1), NONE);
        due("15: slot 4", x.tried(4), NONE);
        due("15: an empty book", new RulesTried().tried(0), 0);
    }

    private static void decides() {
        RulesTried x = asked();
        int[] want = {3, 3, 0, 1};
        for (int line = 0; line < 4; line++) {
            due("16: line " + line, x.decides(0, line), want[line]);
        }
        due("16: line -1", x.decides(0, -1), NONE);
        due("16: line 4", x.decides(0, 4), NONE);
        due("16: slot -1", x.decides(-1, 0), NONE);
        due("16: slot 4", x.decides(4, 0), NONE);
        due("16: without rules", x.decides(2, 0), NONE);
    }

    private static void lost() {
        RulesTried x = asked();
        due("17: the first", x.lost(0, 1, 0), 3);
        due("17: the second", x.lost(0, 1, 1), 6);
        due("17: the third", x.lost(0, 1, 2), 8);
        due("17: a fourth", x.lost(0, 1, 3), NONE);
        due("17: k -1", x.lost(0, 1, -1), NONE);
        due("17: the other way", x.lost(1, 0, 0), NONE);
        due("17: by itself", x.lost(0, 0, 0), NONE);
        due("17: slot a", x.lost(4, 1, 0), NONE);
        due("17: slot b", x.lost(0, -1, 0), NONE);
        due("17: to no rules", x.lost(0, 2, 3), 8);
    }

    private static void idle() {
        RulesTried x = asked();
        boolean[] want = {false, false, true, false};
        for (int line = 0; line < 4; line++) {
            due("18: line " + line, x.idle(0, line), want[line]);
        }
        rules(x, 2, "let all any all when hour=23;stop all any all when hour>22;let group 7 any all;let all read kind 4;", 4);
        due("18: one hour", x.idle(2, 0), false);
        due("18: behind another", x.idle(2, 1), true);
        due("18: nobody is in it", x.idle(2, 2), true);
        due("18: a kind that is there", x.idle(2, 3), false);
        due("18: line -1", x.idle(0, -1), false);
        due("18: line 4", x.idle(0, 4), false);
        due("18: slot 4", x.idle(4, 0), false);
        due("18: slot -1", x.idle(-1, 0), false);
        x.moves(2, 128, 0);
        due("18: somebody is in it", x.idle(2, 2), false);
        RulesTried empty = new RulesTried();
        rules(empty, 0, LET_ALL, 1);
        due("18: nothing could be asked", empty.idle(0, 0), true);
        rules(x, 3, "by last;" + LET_ALL + LET_ALL, 2);
        rules(x, 2, "let one 0 read thing 0 when hour=0;let one 2 drop thing 2 when hour=23;", 2);
        due("18: the first that could be", x.idle(2, 0), false);
        due("18: the last that could be", x.idle(2, 1), false);
        due("18: by last, the first", x.idle(3, 0), true);
        due("18: by last, the last", x.idle(3, 1), false);
    }

    private static void more() {
        RulesTried x = peopled();
        rules(x, 0, LET_ALL, 1);
        rules(x, 1, "stop one 1 drop thing 2 when hour=5;let all any all when hour<23;", 2);
        due("19: all of it", x.more(0, 2), 3 * 4 * 3 * 24);
        due("19: one and the last hours", x.more(0, 1), 1 + 36);
        due("19: the other way", x.more(1, 0), 0);
        due("19: by itself", x.more(0, 0), 0);
        due("19: slot a", x.more(-1, 0), NONE);
        due("19: slot b", x.more(0, 4), NONE);
        due("19: nothing could be asked", new RulesTried().more(0, 1), 0);
        RulesTried full = new RulesTried();
        for (int i = 0; i < 16; i++) {
            full.person(0, 0);
            full.thing(0, 0, 0);
        }
        rules(full, 0, LET_ALL, 1);
        due("19: all that could ever be", full.more(0, 1), 24576);
    }

    private static void unlike() {
        RulesTried x = peopled();
        rules(x, 0, LET_ALL, 1);
        rules(x, 1, "stop one 2 any all;stop one 1 share thing 2 when hour=9 or hour=7;stop one 1 drop thing 0;" + LET_ALL, 4);
        int[] want = {1, 2, 2, 7};
        for (int what = 0; what < 4; what++) {
            due("20: what " + what, x.unlike(0, 1, what), want[what]);
            due("20: the other way", x.unlike(1, 0, what), want[what]);
        }
        due("20: what -1", x.unlike(0, 1, -1), NONE);
        due("20: what 4", x.unlike(0, 1, 4), NONE);
        due("20: slot a", x.unlike(4, 0, 0), NONE);
        due("20: slot b", x.unlike(0, -1, 0), NONE);
        due("20: by itself", x.unlike(0, 0, 0), NONE);
        rules(x, 2, "let all read all;let all any all;", 2);
        due("20: by other lines, yet alike", x.unlike(0, 2, 0), NONE);
        for (int what = 0; what < 4; what++) {
            due("20: at the very first", x.unlike(0, 3, what), 0);
        }
        rules(x, 2, "let one 2 drop thing 2 when hour=23;", 1);
        int[] last = {2, 3, 2, 23};
        for (int what = 0; what < 4; what++) {
            due("20: at the very last", x.unlike(2, 3, what), last[what]);
        }
        due("20: nothing could be asked", new RulesTried().unlike(0, 1, 0), NONE);
    }

    private static void change(RulesTried x, int k, int line, int kind) {
        due("22: line of change " + k, x.change(k, 0), line);
        due("22: kind of change " + k, x.change(k, 1), kind);
    }

    private static void mend() {
        RulesTried x = peopled();
        rules(x, 0, "let all read all;stop all write all;stop one 1 any all;let all any all;", 4);
        due("21: nothing is marked", x.mend(0), 0);
        change(x, 0, NONE, NONE);
        x.mark(x.ask(0, 1, 0, 0), 1);
        due("21: left out goes ahead", x.mend(0), 1);
        change(x, 0, 1, 0);
        change(x, 1, NONE, NONE);
        x.mark(x.ask(1, 1, 0, 0), 1);
        due("21: one that is turned", x.mend(0), 1);
        change(x, 0, 1, 1);
        x.mark(x.ask(1, 0, 0, 0), 0);
        due("21: two", x.mend(0), 2);
        change(x, 0, 0, 0);
        change(x, 1, 1, 1);
        x.mark(x.ask(0, 2, 0, 0), 0);
        due("21: three", x.mend(0), 3);
        change(x, 0, 0, 0);
        change(x, 1, 1, 1);
        change(x, 2, 3, 0);
        change(x, 3, NONE, NONE);
        x.mark(x.ask(0, 2, 0, 5), 1);
        due("21: no 3 do", x.mend(0), NONE);
        change(x, 2, 3, 0);
        due("21: slot -1", x.mend(-1), NONE);
        due("21: slot 4", x.mend(4), NONE);
        change(x, 1, 1, 1);
        due("21: no line, nothing does", x.mend(3), NONE);
        change(x, 1, 1, 1);
    }

    /** Of as few changes the least line, then left out, then the second likewise. */
    private static void mendInOrder() {
        RulesTried x = peopled();
        x.mark(x.ask(0, 0, 0, 0), 1);
        rules(x, 0, "stop all any all;stop all read all;let all any all;", 3);
        due("21: turned, the first", x.mend(0), 1);
        change(x, 0, 0, 1);
        rules(x, 0, "by stop;stop all any all;stop all read all;let all any all;", 3);
        due("21: by stop", x.mend(0), 2);
        change(x, 0, 0, 0);
        change(x, 1, 1, 0);
        rules(x, 0, "by let;stop all any all;stop all read all;", 2);
        due("21: by let", x.mend(0), 1);
        change(x, 0, 0, 1);
        rules(x, 0, "by last;let all any all;stop all any all;", 2);
        due("21: by last", x.mend(0), 1);
        change(x, 0, 1, 0);
        x.mark(0, 0);
        rules(x, 0, "by stop;let all any all;let all read all;", 2);
        due("21: stopped by stop", x.mend(0), 1);
        change(x, 0, 0, 1);
        rules(x, 0, "by let;let all any all;stop all any all;let all read all;let all write all;", 4);
        due("21: stopped by let", x.mend(0), 2);
        change(x, 0, 0, 0);
        change(x, 1, 2, 0);
        rules(x, 0, "by let;" + LET_ALL.repeat(12), 12);
        due("21: too many lets", x.mend(0), NONE);
        rules(x, 0, "by let;" + "stop one 1 any all;".repeat(9) + LET_ALL.repeat(3), 12);
        due("21: the last three", x.mend(0), 3);
        for (int k = 0; k < 3; k++) {
            change(x, k, 9 + k, 0);
        }
    }

    private static void mendOfAFullBook() {
        RulesTried x = peopled();
        rules(x, 0, "let all read all;let all write all;", 2);
        for (int i = 0; i < 199; i++) {
            x.mark(x.ask(i % 3, 0, i / 3 % 3, i % 24), 1);
        }
        due("21: all of them", x.mend(0), 0);
        x.mark(x.ask(0, 1, 0, 0), 0);
        due("21: the 200th too", x.mend(0), 1);
        change(x, 0, 1, 0);
    }

    private static void change() {
        RulesTried x = peopled();
        due("22: none at hand", x.change(0, 0), NONE);
        x.mark(x.ask(0, 0, 0, 0), 1);
        rules(x, 0, "stop all any all;", 1);
        due("22: turned", x.mend(0), 1);
        due("22: line", x.change(0, 0), 0);
        due("22: kind", x.change(0, 1), 1);
        due("22: what -1", x.change(0, -1), NONE);
        due("22: what 2", x.change(0, 2), NONE);
        due("22: k -1", x.change(-1, 0), NONE);
        due("22: k 1", x.change(1, 0), NONE);
        rules(x, 0, LET_ALL, 1);
        due("22: at hand, whatever rules come", x.change(0, 1), 1);
    }

    private static void apply() {
        RulesTried x = peopled();
        due("23: none at hand", x.apply(), NONE);
        String text = "by last;let all any all;stop one 0 any all;stop one 0 read all;";
        rules(x, 2, text, 3);
        x.mark(x.ask(0, 0, 0, 0), 1);
        due("23: mend", x.mend(2), 1);
        due("23: line", x.change(0, 0), 2);
        due("23: turned, for the one before stops too", x.change(0, 1), 1);
        due("23: done", x.apply(), 3);
        due("23: it lets", x.line(2, 2, 0), 1);
        due("23: decided as marked", x.decide(2, 0, 0, 0, 0, false), 1);
        due("23: by last still", x.count(10), 1);
        due("23: done already", x.apply(), NONE);
        due("23: it is still at hand", x.change(0, 0), 2);
        due("23: none is needed", x.mend(2), 0);
        due("23: none is done", x.apply(), 3);
        due("23: and not again", x.apply(), NONE);
        x.mark(0, 0);
        due("23: leaves one out", x.mend(2), 1);
        due("23: the lines then", x.apply(), 2);
        due("23: lines", x.count(6), 2);
        due("23: a line's when none is left", x.line(2, 2, 0), NONE);
    }

    private static void applyToThose() {
        RulesTried x = peopled();
        String text = "stop all any all;let all any all when hour=1;";
        rules(x, 0, text, 2);
        x.mark(x.ask(0, 0, 0, 1), 1);
        due("23: mend", x.mend(0), 1);
        rules(x, 0, text, 2);
        due("23: other rules came", x.apply(), NONE);
        due("23: mend", x.mend(0), 1);
        rules(x, 0, "let", NONE);
        rules(x, 1, LET_ALL, 1);
        due("23: a fault and other slots leave them", x.apply(), 1);
        due("23: the line behind moves up", x.line(0, 0, 0), 1);
        due("23: with its when", x.line(0, 0, 6), 1);
        due("23: that works", x.decide(0, 0, 0, 0, 2, true), NONE);
        due("23: and lets", x.decide(0, 0, 0, 0, 1, true), 0);
        rules(x, 0, text, 2);
        due("23: mend", x.mend(0), 1);
        due("23: another is refused", x.mend(3), NONE);
        due("23: what was at hand is done", x.apply(), 1);
    }

    private static void line() {
        RulesTried x = new RulesTried();
        rules(x, 1, "stop clear 4 share level 3 when owner;", 1);
        int[] want = {0, 4, 4, 2, 3, 3, 1};
        for (int what = 0; what < 7; what++) {
            due("24: what " + what, x.line(1, 0, what), want[what]);
        }
        due("24: what -1", x.line(1, 0, -1), NONE);
        due("24: what 7", x.line(1, 0, 7), NONE);
        due("24: line -1", x.line(1, -1, 0), NONE);
        due("24: line 1", x.line(1, 1, 0), NONE);
        due("24: slot 0", x.line(0, 0, 0), NONE);
        due("24: slot -1", x.line(-1, 0, 0), NONE);
        due("24: slot 4", x.line(4, 0, 0), NONE);
    }

    private static void count() {
        RulesTried x = asked();
        x.thing(0, 0, 0);
        x.mark(3, 0);
        x.mark(4, 1);
        rules(x, 2, "by stop;", 0);
        rules(x, 3, "by let;let all any all;", 1);
        rules(x, 1, "by last;let all any all;", 1);
        int[] want = {3, 4, 9, 2, 4, 1, 0, 1, 0, 1, 2, 3};
        for (int what = 0; what < want.length; what++) {
            due("25: what " + what, x.count(what), want[what]);
        }
        due("25: what -1", x.count(-1), NONE);
        due("25: what 12", x.count(12), NONE);
        due("25: far off", x.count(Integer.MIN_VALUE), NONE);
        rules(x, 3, "by first;", 0);
        due("25: by first", x.count(11), 0);
    }

    private static void imageAndAgain() {
        RulesTried x = asked();
        x.mark(0, 0);
        due("26: image 0", x.image(0), true);
        due("26: image -1", x.image(-1), false);
        due("26: image 3", x.image(3), false);
        due("27: again 1", x.again(1), false);
        due("27: again -1", x.again(-1), false);
        due("27: again 3", x.again(3), false);
        x.moves(0, 7, 4);
        x.gives(0, 2, 5);
        x.mark(0, 1);
        x.ask(0, 0, 0, 0);
        x.person(0, 0);
        x.thing(0, 0, 0);
        rules(x, 0, "by let;", 0);
        due("26: image 2", x.image(2), true);
        rules(x, 1, "let one 16 any all;", NONE);
        feedBlanks(x);
        due("27: again 0", x.again(0), true);
        int[] want = {3, 3, 9, 1, 4, 2, 0, 0, 0, 0, 0, 0};
        for (int what = 0; what < want.length; what++) {
            due("27: count(" + what + ")", x.count(what), want[what]);
        }
        due("27: groups", x.tell(0, 0), 1);
        due("27: clearance", x.tell(0, 1), 0);
        due("27: level", x.tell(0, 3), 0);
        due("27: owner", x.tell(0, 4), 0);
        due("27: mark", x.book(0, 4), 0);
        due("27: nobody more", x.tell(3, 0), NONE);
        due("27: fault stays", x.fault(0), 2);
        due("27: its place", x.fault(1), 8);
        due("27: the tape stays", x.end(20), 20);
        due("27: slot 0", x.line(0, 3, 2), 2);
        x.mark(0, NONE);
        due("27: again 0, the image stayed", x.again(0), true);
        due("27: mark", x.book(0, 4), 0);
        due("27: again 2", x.again(2), true);
        due("27: mark", x.book(0, 4), 1);
        due("27: by let", x.count(8), 3);
        due("26: image 0 anew", x.image(0), true);
        x.person(0, 0);
        due("27: again 0", x.again(0), true);
        due("27: people", x.count(0), 4);
    }

    private static void againLeavesNoMend() {
        RulesTried x = asked();
        x.image(1);
        due("27: mend", x.mend(0), 0);
        due("27: no such image", x.again(0), false);
        due("27: the mend stays", x.apply(), 4);
        x.mark(0, 0);
        due("27: mend", x.mend(0), 1);
        due("26: an image leaves the mend", x.image(2), true);
        due("27: change", x.change(0, 0), 0);
        due("27: again", x.again(2), true);
        due("27: no change", x.change(0, 0), NONE);
        due("27: no mend", x.apply(), NONE);
    }

    public static void main(String[] args) {
        newObject();
        feed();
        end();
        rulesOfSlots();
        fault();
        person();
        thing();
        moves();
        gives();
        tell();
        decide();
        decidedByStopAndLet();
        lineHolds();
        whenHolds();
        ask();
        mark();
        book();
        tried();
        decides();
        lost();
        idle();
        more();
        unlike();
        mend();
        mendInOrder();
        mendOfAFullBook();
        change();
        apply();
        applyToThose();
        line();
        count();
        imageAndAgain();
        againLeavesNoMend();
        Checks.finish();
    }
}
