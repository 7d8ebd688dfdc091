/** Terms 2 of the document, which LINES HOLD and which one decides: a test for each part that names an edge. */
public final class HoldsEdgesTest {
    private static final int NONE = RulesTried.NONE;
    private static final String LET_ALL = "let all any all;";

    private static void due(String call, int got, int want) {
        Checks.due(call, got, want);
    }

    private static void rules(RulesTried x, int slot, String text, int lines) {
        due("rules(" + slot + ") of " + text, Checks.rules(x, slot, text), lines);
    }

    /** Person i of 8 is in group i alone, of clearance i (5 from 5 on), and owns thing i, of kind i and that level. */
    private static RulesTried eight() {
        RulesTried x = new RulesTried();
        for (int i = 0; i < 8; i++) {
            x.person(1 << i, Math.min(i, 5));
            x.thing(i, Math.min(i, 5), i);
        }
        return x;
    }

    /** Whether the rules in SLOT 0 let the person write the thing at 12. */
    private static void lets(RulesTried x, int person, int thing, boolean want) {
        due("lets person " + person + ", thing " + thing, x.decide(0, person, 1, thing, 12, false), want ? 1 : 0);
    }

    private static void whoAll() {
        RulesTried x = eight();
        rules(x, 0, "let all any all;", 1);
        for (int i = 0; i < 8; i++) {
            lets(x, i, 7 - i, true);
        }
    }

    private static void whoGroup() {
        RulesTried x = eight();
        for (int group = 0; group < 8; group++) {
            rules(x, 0, "let group " + group + " any all;", 1);
            for (int i = 0; i < 8; i++) {
                lets(x, i, 0, i == group);
            }
        }
        x.moves(3, 0, 0);
        lets(x, 3, 0, false);
        x.moves(3, 255, 0);
        lets(x, 3, 0, true);
        x.moves(3, 127, 0);
        lets(x, 3, 0, false);
    }

    private static void whoOne() {
        RulesTried x = eight();
        rules(x, 0, "let one 8 any all;", 1);
        for (int i = 0; i < 8; i++) {
            lets(x, i, i, false);
        }
        due("one more", x.person(0, 0), 8);
        lets(x, 8, 0, true);
        rules(x, 0, "let one 0 any all;", 1);
        lets(x, 0, 0, true);
        lets(x, 1, 0, false);
    }

    private static void whoOwner() {
        RulesTried x = eight();
        rules(x, 0, "let owner any all;", 1);
        for (int i = 0; i < 8; i++) {
            lets(x, i, i, true);
            lets(x, i, (i + 1) % 8, false);
        }
        x.gives(0, 7, 0);
        lets(x, 0, 0, false);
        lets(x, 7, 0, true);
    }

    private static void whoClear() {
        RulesTried x = eight();
        for (int clearance = 0; clearance <= 5; clearance++) {
            rules(x, 0, "let clear " + clearance + " any all;", 1);
            for (int i = 0; i < 6; i++) {
                lets(x, i, 0, i >= clearance);
            }
        }
    }

    private static void whatAll() {
        RulesTried x = eight();
        rules(x, 0, "let all any all;", 1);
        for (int i = 0; i < 8; i++) {
            lets(x, 0, i, true);
        }
    }

    private static void whatKind() {
        RulesTried x = eight();
        for (int kind = 0; kind < 8; kind++) {
            rules(x, 0, "let all any kind " + kind + ";", 1);
            for (int i = 0; i < 8; i++) {
                lets(x, 0, i, i == kind);
            }
        }
    }

    private static void whatThing() {
        RulesTried x = eight();
        rules(x, 0, "let all any thing 8;", 1);
        for (int i = 0; i < 8; i++) {
            lets(x, 0, i, false);
        }
        due("one more", x.thing(0, 0, 0), 8);
        lets(x, 0, 8, true);
        rules(x, 0, "let all any thing 0;", 1);
        lets(x, 0, 0, true);
        lets(x, 0, 1, false);
    }

    private static void whatLevel() {
        RulesTried x = eight();
        for (int level = 0; level <= 5; level++) {
            rules(x, 0, "let all any level " + level + ";", 1);
            for (int i = 0; i < 6; i++) {
                lets(x, 0, i, i >= level);
            }
        }
        x.gives(5, 0, 4);
        lets(x, 0, 5, false);
    }

    private static void anyOrThatAct() {
        RulesTried x = eight();
        rules(x, 0, "let all any all;", 1);
        rules(x, 1, "let all read all;", 1);
        rules(x, 2, "let all drop all;", 1);
        for (int act = 0; act < 4; act++) {
            due("any, act " + act, x.decide(0, 0, act, 0, 0, false), 1);
            due("read, act " + act, x.decide(1, 0, act, 0, 0, false), act == 0 ? 1 : 0);
            due("drop, act " + act, x.decide(2, 0, act, 0, 0, false), act == 3 ? 1 : 0);
        }
    }

    private static void allOfThem() {
        RulesTried x = eight();
        rules(x, 0, "let group 1 write kind 2 when hour=12;", 1);
        lets(x, 1, 2, true);
        lets(x, 0, 2, false);
        lets(x, 1, 1, false);
        due("another act", x.decide(0, 1, 0, 2, 12, false), 0);
        due("another hour", x.decide(0, 1, 1, 2, 11, false), 0);
    }

    private static void withoutE() {
        RulesTried x = eight();
        rules(x, 0, LET_ALL, 1);
        for (int hour = 0; hour < 24; hour++) {
            due("without an E at " + hour, x.decide(0, 0, 0, 0, hour, false), 1);
        }
        rules(x, 0, "let all any all when 1=2;", 1);
        due("with one that never holds", x.decide(0, 0, 0, 0, 0, false), 0);
        due("what 6", x.line(0, 0, 6), 1);
    }

    private static void groupsCounted() {
        int[] groups = {0, 1, 128, 129, 127, 254, 255};
        int[] counts = {0, 1, 1, 2, 7, 7, 8};
        RulesTried x = new RulesTried();
        for (int i = 0; i < groups.length; i++) {
            x.person(groups[i], 0);
        }
        x.thing(0, 0, 0);
        for (int count = 0; count <= 9; count++) {
            rules(x, 0, "let all any all when groups=" + count + ";", 1);
            for (int i = 0; i < groups.length; i++) {
                lets(x, i, 0, counts[i] == count);
            }
        }
    }

    private static void ownerOrNot() {
        RulesTried x = eight();
        rules(x, 0, "let all any all when owner;", 1);
        lets(x, 7, 7, true);
        lets(x, 0, 0, true);
        lets(x, 0, 7, false);
        rules(x, 0, "let all any all when not owner;", 1);
        lets(x, 7, 7, false);
        lets(x, 0, 7, true);
    }

    /** Each sign between an HOUR and each NUMBER about it, on either side. */
    private static void hoursCompared() {
        for (int number : new int[] {0, 1, 22, 23, 24, 25, 31, 32, 999}) {
            hoursCompared(number, "<", -1);
            hoursCompared(number, "=", 0);
            hoursCompared(number, ">", 1);
        }
    }

    private static void hoursCompared(int number, String sign, int order) {
        RulesTried x = eight();
        rules(x, 0, "let all any all when hour" + sign + number + ";", 1);
        rules(x, 1, "let all any all when " + number + sign + "hour;", 1);
        for (int hour : new int[] {0, 1, 2, 21, 22, 23}) {
            boolean left = Integer.compare(hour, number) == order;
            boolean right = Integer.compare(number, hour) == order;
            due("hour " + hour + sign + number, x.decide(0, 0, 0, 0, hour, false), left ? 1 : 0);
            due(number + sign + "hour " + hour, x.decide(1, 0, 0, 0, hour, false), right ? 1 : 0);
        }
    }

    private static void hoursComparedWithThemselves() {
        RulesTried x = eight();
        rules(x, 0, "let all any all when hour<hour;", 1);
        rules(x, 1, "let all any all when hour=hour;", 1);
        rules(x, 2, "let all any all when hour>hour;", 1);
        for (int hour : new int[] {0, 1, 22, 23}) {
            due("hour<hour at " + hour, x.decide(0, 0, 0, 0, hour, false), 0);
            due("hour=hour at " + hour, x.decide(1, 0, 0, 0, hour, false), 1);
            due("hour>hour at " + hour, x.decide(2, 0, 0, 0, hour, false), 0);
        }
    }

    /** Each sign between NUMBERS, and between the CLEARANCE 2 of one in group 2 and a THING of KIND 3, LEVEL 3. */
    private static void othersCompared() {
        String[] words = {"groups", "1", "clear", "2", "kind", "level", "3"};
        int[] values = {1, 1, 2, 2, 3, 3, 3};
        for (int left = 0; left < words.length; left++) {
            for (int right = 0; right < words.length; right++) {
                RulesTried x = eight();
                rules(x, 0, "let all any all when " + words[left] + "<" + words[right] + ";", 1);
                rules(x, 1, "let all any all when " + words[left] + "=" + words[right] + ";", 1);
                rules(x, 2, "let all any all when " + words[left] + ">" + words[right] + ";", 1);
                int order = Integer.compare(values[left], values[right]);
                for (int sign = 0; sign < 3; sign++) {
                    String call = words[left] + " to " + words[right] + " by sign " + sign;
                    due(call + " at 0", x.decide(sign, 2, 0, 3, 0, false), order == sign - 1 ? 1 : 0);
                    due(call + " at 23", x.decide(sign, 2, 0, 3, 23, false), order == sign - 1 ? 1 : 0);
                }
            }
        }
    }

    /** Line 0 lets reads, 1 stops reads and writes, 2 lets writes and shares, 3 stops shares, 4 lets drops, 5 lets drops. */
    private static final String SIX = "let all read all;stop all any all when not(hour>1);let all any all when hour=1 or hour=2;"
        + "stop all share all;let all drop all;let all drop all;";

    private static void decided(String by, int[][] want) {
        RulesTried x = eight();
        rules(x, 0, by + SIX, 6);
        for (int act = 0; act < 4; act++) {
            for (int hour = 0; hour < 4; hour++) {
                due(by + " act " + act + " at " + hour, x.decide(0, 0, act, 0, hour, true), want[act][hour]);
                boolean let = want[act][hour] != NONE && want[act][hour] != 1 && want[act][hour] != 3;
                due(by + " act " + act + " at " + hour, x.decide(0, 0, act, 0, hour, false), let ? 1 : 0);
            }
        }
    }

    private static void byFirst() {
        int[][] want = {{0, 0, 0, 0}, {1, 1, 2, NONE}, {1, 1, 2, 3}, {1, 1, 2, 4}};
        decided("", want);
        decided("by first;", want);
        RulesTried x = eight();
        rules(x, 0, "by last;", 0);
        rules(x, 0, LET_ALL, 1);
        due("nothing is told, whatever was", x.count(8), 0);
    }

    private static void byLast() {
        decided("by last;", new int[][] {{1, 2, 2, 0}, {1, 2, 2, NONE}, {3, 3, 3, 3}, {5, 5, 5, 5}});
    }

    private static void byStop() {
        decided("by stop;", new int[][] {{1, 1, 0, 0}, {1, 1, 2, NONE}, {1, 1, 3, 3}, {1, 1, 2, 4}});
    }

    private static void byLet() {
        decided("by let;", new int[][] {{0, 0, 0, 0}, {1, 2, 2, NONE}, {1, 2, 2, 3}, {4, 2, 2, 4}});
    }

    private static void noneHolds() {
        for (String by : new String[] {"", "by first;", "by last;", "by stop;", "by let;"}) {
            RulesTried x = eight();
            rules(x, 0, by, 0);
            due(by + " without lines", x.decide(0, 0, 0, 0, 0, false), 0);
            due(by + " without lines, by none", x.decide(0, 0, 0, 0, 0, true), NONE);
            rules(x, 0, by + "let one 1 any all;stop one 1 any all;", 2);
            due(by + " none holds", x.decide(0, 0, 0, 0, 0, false), 0);
            due(by + " by none", x.decide(0, 0, 0, 0, 0, true), NONE);
        }
        due("without rules", eight().decide(3, 0, 0, 0, 0, false), 0);
        due("without rules, by none", eight().decide(3, 0, 0, 0, 0, true), NONE);
    }

    private static void twelveLines() {
        RulesTried x = eight();
        String ahead = "stop one 1 any all;".repeat(11);
        for (String by : new String[] {"", "by last;", "by stop;", "by let;"}) {
            rules(x, 0, by + ahead + LET_ALL, 12);
            due(by + " the twelfth of them", x.decide(0, 0, 0, 0, 0, true), 11);
            due(by + " lets", x.decide(0, 0, 0, 0, 0, false), 1);
        }
    }

    private static void holding() {
        Checks.sentence("A LINE HOLDS for an ASK if WHO does (all;", HoldsEdgesTest::whoAll);
        Checks.sentence("in that GROUP;", HoldsEdgesTest::whoGroup);
        Checks.sentence("that one; (of the PEOPLE)", HoldsEdgesTest::whoOne);
        Checks.sentence("the THING's OWNER;", HoldsEdgesTest::whoOwner);
        Checks.sentence("of that CLEARANCE or more)", HoldsEdgesTest::whoClear);
        Checks.sentence("the ACT (any, or that)", HoldsEdgesTest::anyOrThatAct);
        Checks.sentence("WHAT (all;", HoldsEdgesTest::whatAll);
        Checks.sentence("of that KIND;", HoldsEdgesTest::whatKind);
        Checks.sentence("that one; (of the THINGS)", HoldsEdgesTest::whatThing);
        Checks.sentence("of that LEVEL or more)", HoldsEdgesTest::whatLevel);
        Checks.sentence("A LINE HOLDS for an ASK if WHO does, the ACT, WHAT, and E", HoldsEdgesTest::allOfThem);
        Checks.sentence("and E, if there is one:", HoldsEdgesTest::withoutE);
        Checks.sentence("groups is how many GROUPS one is in;", HoldsEdgesTest::groupsCounted);
        Checks.sentence("owner, whether one is the OWNER.", HoldsEdgesTest::ownerOrNot);
        Checks.sentence("T ('&lt;' | '&gt;' | '=') T, with hour on one side", HoldsEdgesTest::hoursCompared);
        Checks.sentence("T ('&lt;' | '&gt;' | '=') T, with hour on both", HoldsEdgesTest::hoursComparedWithThemselves);
        Checks.sentence("T ('&lt;' | '&gt;' | '=') T, with hour on none", HoldsEdgesTest::othersCompared);
    }

    private static void deciding() {
        Checks.sentence("by first (also if nothing is told): by the first one;", HoldsEdgesTest::byFirst);
        Checks.sentence("by last: the last one;", HoldsEdgesTest::byLast);
        Checks.sentence("by stop: the first 'stop', or if there is none the first 'let';", HoldsEdgesTest::byStop);
        Checks.sentence("by let: the first 'let', or if there is none the first 'stop'.", HoldsEdgesTest::byLet);
        Checks.sentence("If none HOLDS: it is stopped, by no LINE.", HoldsEdgesTest::noneHolds);
        Checks.sentence("DECIDED, of the LINES that HOLD:", HoldsEdgesTest::twelveLines);
    }

    public static void main(String[] args) {
        holding();
        deciding();
        Checks.finish();
    }
}
