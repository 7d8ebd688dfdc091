/** Terms 2 of the document, RULES and their language: a test for each sentence that names an edge. */
public final class TextEdgesTest {
    private static final int NONE = RulesTried.NONE;
    private static final String LET_ALL = "let all any all;";
    private static final String WHEN = "let all any all when ";

    private static void due(String call, int got, int want) {
        Checks.due(call, got, want);
    }

    private static void reads(String text, int lines) {
        Checks.reads(text, lines);
    }

    private static void faults(String text, int fault, int place) {
        Checks.faults(text, fault, place);
    }

    private static void stops(String marked) {
        Checks.stops(marked);
    }

    private static String filled(String text, int length) {
        return text + " ".repeat(length - text.length());
    }

    private static void slots() {
        RulesTried x = new RulesTried();
        for (int slot = 0; slot < 4; slot++) {
            due("slot " + slot, Checks.rules(x, slot, LET_ALL.repeat(slot + 1)), slot + 1);
        }
        for (int slot = 0; slot < 4; slot++) {
            due("lines of slot " + slot, x.count(4 + slot), slot + 1);
        }
        for (int slot : Checks.outside(3)) {
            due("slot " + slot, x.rules(slot), -2);
        }
    }

    private static void tapeOf600() {
        reads(filled(LET_ALL, 600), 1);
        reads(" ".repeat(584) + LET_ALL, 1);
        faults(filled("let all any all", 600), 1, 600);
        faults(" ".repeat(599) + "x", 1, 599);
        faults(";".repeat(600), 1, 0);
        faults("a".repeat(600), 1, 0);
        faults("1".repeat(600), 1, 0);
        reads(WHEN + "1=1or ".repeat(95) + "hour=999;", 1);
        faults(WHEN + "1=1or ".repeat(95) + "1=1 hour;", 1, 595);
        faults(WHEN + "1=1or ".repeat(95) + "hour=hour", 1, 600);
        RulesTried x = new RulesTried();
        Checks.put(x, filled(LET_ALL, 600));
        due("one more", x.feed(0, 0, 0, 0, 0), NONE);
        due("the text stays", x.rules(0), 1);
    }

    private static void asLongAsTheyGo() {
        stops("#letall any all;");
        stops("let #allany all;");
        stops("let all any #alls;");
        stops("let all any all #whenowner;");
        stops(WHEN + "owner #orowner;");
        reads("let group7any kind7;", 1);
        reads("let all any all when 1=1and 2=2or 3=3;", 1);
        reads("let all any all when(owner)or(owner);", 1);
        reads("let all any all;let all any all;", 2);
        stops("let one #1111 any all;");
        stops("let one 1 #1 any all;");
    }

    private static void blanks() {
        reads("\n \nlet\nall \n any\n\nall\n;\n ", 1);
        for (int sign = 0; sign < 256; sign++) {
            boolean blank = sign == 10 || sign == 32;
            String text = LET_ALL + (char) sign;
            if (blank) {
                reads(text, 1);
            } else {
                faults(text, 1, 16);
            }
        }
        stops("let #g roup 1 any all;");
        stops("let group 1\n#2 any all;");
        stops(WHEN + "1< #=2;");
    }

    private static void letters() {
        stops("#`let all any all;");
        stops("#{let all any all;");
        stops("let#`all any all;");
        stops("let#{all any all;");
        stops("#Let all any all;");
        stops("let all any all#Z;");
        reads("let all any all;", 1);
        stops("let all any all;#a");
        stops("let all any all;#z");
        stops("#alet all any all;");
        stops("#zlet all any all;");
        stops("#leta all any all;");
        stops("#letz all any all;");
    }

    private static void digits() {
        reads("let one 0 any all;", 1);
        reads("let one 9 any all;", 1);
        reads("let one 00 any all;", 1);
        reads("let one 15 any all;", 1);
        reads("let one 015 any all;", 1);
        reads("let one 000 any all;", 1);
        stops("let one #0000 any all;");
        stops("let one #0015 any all;");
        stops("let one #any all;");
        stops("let one #/1 any all;");
        stops("let one #:1 any all;");
        stops("let one 1#/ any all;");
        stops("let one 1#: any all;");
        stops("let one #-1 any all;");
        reads(WHEN + "999=000;", 1);
        stops(WHEN + "999=#1000;");
        stops(WHEN + "#1000=999;");
    }

    private static void signs() {
        reads(WHEN + "(1<2)or(1>2)or(1=2);", 1);
        stops(WHEN + "1<#=2;");
        stops(WHEN + "1>#=2;");
        stops(WHEN + "1=#=2;");
        stops(WHEN + "1<#>2;");
        stops(LET_ALL + "#;");
        stops(WHEN + "owner#);");
        for (int sign = 33; sign < 48; sign++) {
            if (sign != '(') {
                faults(WHEN + (char) sign + "1=1);", 1, 21);
            }
        }
        for (int sign = 58; sign < 65; sign++) {
            boolean compares = sign >= '<' && sign <= '>';
            if (compares) {
                reads(WHEN + "1" + (char) sign + "1;", 1);
            } else {
                faults(WHEN + "1" + (char) sign + "1;", 1, 22);
            }
        }
    }

    private static void byOrNot() {
        reads("", 0);
        reads("by first;", 0);
        reads("by last;" + LET_ALL, 1);
        stops("#first;");
        stops("by#");
        stops("by #by;");
        stops("by #;");
        stops("by #owner;");
        stops("by #any;");
        stops("by #all;");
        stops("by let#");
        stops("by let #let;");
        stops("by let;#by let;");
        stops("by let;#;");
        stops(LET_ALL + "#by let;");
    }

    private static void noLinesOrMore() {
        for (int lines = 0; lines <= 12; lines++) {
            reads("by stop;" + LET_ALL.repeat(lines), lines);
            reads(LET_ALL.repeat(lines), lines);
        }
        stops("#all any all;");
        stops("#when owner;");
        stops("let#");
        stops("let #;");
        stops("let all any all#");
        stops("let all any all #let all any all;");
    }

    private static void wordsOfWho() {
        for (String who : new String[] {"all", "group 0", "one 0", "owner", "clear 0"}) {
            reads("let " + who + " any all;", 1);
        }
        for (String who : new String[] {"group", "one", "clear"}) {
            stops("let " + who + " #any all;");
            stops("let " + who + "#");
            stops("let " + who + " 0 #0 any all;");
        }
        stops("let all #0 any all;");
        stops("let owner #0 any all;");
        for (String who : new String[] {"any", "read", "kind 0", "thing 0", "level 0", "groups", "hour", "0", "(all)", "let", "not owner"}) {
            stops("let #" + who + " any all;");
        }
    }

    private static void wordsOfAct() {
        for (String act : new String[] {"any", "read", "write", "share", "drop"}) {
            reads("stop all " + act + " all;", 1);
        }
        for (String act : new String[] {"all", "kind", "0", "when", ";", "owner", "reads", "stop"}) {
            stops("stop all #" + act + " all;");
        }
        stops("stop all#");
        stops("stop all read #write all;");
    }

    private static void wordsOfWhat() {
        for (String what : new String[] {"all", "kind 0", "thing 0", "level 0"}) {
            reads("stop all any " + what + ";", 1);
        }
        for (String what : new String[] {"kind", "thing", "level"}) {
            stops("stop all any " + what + "#;");
            stops("stop all any " + what + "#");
            stops("stop all any " + what + " 0 #0;");
        }
        stops("stop all any all #0;");
        stops("stop all any#");
        for (String what : new String[] {"group 0", "one 0", "owner", "clear 0", "any", ";", "0", "when owner"}) {
            stops("stop all any #" + what + ";");
        }
    }

    private static void whenOrNot() {
        reads(LET_ALL + WHEN + "owner;" + LET_ALL, 3);
        stops("let all any all when#;");
        stops("let all any all when#");
        stops("let all any all #owner;");
        stops("let all any all #or owner;");
        stops(WHEN + "owner#");
        stops(WHEN + "owner #when owner;");
        stops("let all any #when owner;");
    }

    /** Whether the E holds, at hour 12, for one in groups 1 and 2 of clearance 3 who owns a thing of kind 4, level 5. */
    private static void when(String e, boolean holds) {
        RulesTried x = new RulesTried();
        x.person(6, 3);
        x.thing(4, 5, 0);
        due("rules when " + e, Checks.rules(x, 0, WHEN + e + ";"), 1);
        due("when " + e, x.decide(0, 0, 0, 0, 12, false), holds ? 1 : 0);
    }

    private static void oneOrMoreJoined() {
        when("1=1", true);
        when("1=2 or 1=2", false);
        when("1=1 or 1=1", true);
        when("1=1 or 1=1 or 1=1", true);
        when("1=2 or 1=1", true);
        when("1=1 and 1=1", true);
        when("1=2 and 1=2", false);
        when("1=2 or 1=2 or 1=1", true);
        when("1=1 and 1=1 and 1=2", false);
        when("1=1 or 1=1 and 1=2", true);
        when("1=2 and 1=1 or 1=1", true);
        when("1=1 and 1=2 or 1=2 and 1=1", false);
        stops(WHEN + "#or owner;");
        stops(WHEN + "#and owner;");
        stops(WHEN + "owner or#;");
        stops(WHEN + "owner and#;");
        stops(WHEN + "owner or #and owner;");
        stops(WHEN + "owner and #or owner;");
        stops(WHEN + "owner #owner;");
    }

    private static void atMostOneNot() {
        when("not 1=2", true);
        when("not 1=1", false);
        when("not 1=1 or 1=1", true);
        when("not 1=2 and 1=2", false);
        when("not(not 1=1)", true);
        when("1=1 and not 1=2", true);
        when("1=2 or not 1=1", false);
        stops(WHEN + "not #not owner;");
        stops(WHEN + "not#;");
        stops(WHEN + "owner #not;");
        stops(WHEN + "(not #not owner);");
    }

    private static void wordsOfP() {
        when("owner", true);
        when("(owner)", true);
        stops(WHEN + "(#);");
        stops(WHEN + "(owner#;");
        stops(WHEN + "owner#);");
        stops(WHEN + "(owner)#);");
        stops(WHEN + "owner#=owner;");
        stops(WHEN + "1=#owner;");
        stops(WHEN + "1#;");
        stops(WHEN + "1 #2;");
        stops(WHEN + "1=#;");
        stops(WHEN + "1<2#<3;");
        stops(WHEN + "(1#)=1;");
        stops(WHEN + "1=#(1);");
        stops(WHEN + "(owner)#=1;");
        for (String word : new String[] {"or", "and", "not", "by", "first", "stop", "let", "all", "owner", "clear", "level", "2", "("}) {
            stops(WHEN + "1 #" + word + " 2=2;");
        }
    }

    private static void wordsOfT() {
        when("hour=12 and clear=3 and level=5 and kind=4 and groups=2", true);
        when("12=hour and 3=clear and 5=level and 4=kind and 2=groups", true);
        when("kind>clear and clear<kind and level>kind and groups<clear and hour>level", true);
        when("hour<hour or clear<clear or level>level or kind>kind or groups<groups", false);
        for (String word : new String[] {"group", "one", "thing", "all", "any", "act", "person", "hours", "let", "when"}) {
            stops(WHEN + "#" + word + "=1;");
            stops(WHEN + "1=#" + word + ";");
        }
    }

    private static String opened(int times, String inner) {
        return "(".repeat(times) + inner + ")".repeat(times);
    }

    private static void atMostSixOpen() {
        for (int times = 0; times <= 5; times++) {
            reads(WHEN + opened(times, "owner") + ";", 1);
            reads(WHEN + opened(times, "owner or owner and not owner") + ";", 1);
        }
        reads(WHEN + opened(5, "owner") + " or " + opened(5, "owner") + " and not " + opened(5, "1=1") + ";", 1);
        String deep = "1=2 or 1=1 and ";
        when((deep + "(").repeat(5) + deep + "1=1" + ")".repeat(5), true);
        when((deep + "(").repeat(5) + deep + "1=2" + ")".repeat(5), false);
        when((deep + "not(").repeat(5) + deep + "1=2" + ")".repeat(5), true);
    }

    private static void aSeventhAtItsFirstToken() {
        stops(WHEN + "((((((#owner))))));");
        stops(WHEN + "((((((#(owner)))))));");
        stops(WHEN + "((((((#1=1))))));");
        stops(WHEN + "((((((#not owner))))));");
        stops(WHEN + "((((((  #hour=1))))));");
        stops(WHEN + "((((((#");
        stops(WHEN + "((((((\n #");
        stops(WHEN + "((((((#;");
        stops(WHEN + "((((((#))))));");
        stops(WHEN + "owner or (((((owner and not(#owner))))));");
        stops(WHEN + "(((((owner))))) and ((((((#owner))))));");
        stops(WHEN + "(((((owner or (#owner))))));");
        stops(LET_ALL + WHEN + "((((((#owner))))));");
    }

    private static void places() {
        stops("   #x");
        stops("let  \n #x");
        stops("let all any all;   #xyz");
        String text = "by last;" + LET_ALL + WHEN + "not(hour<12)and owner;";
        for (int length = 1; length < text.length(); length++) {
            String cut = text.substring(0, length);
            boolean whole = cut.equals("by last;") || cut.equals("by last;" + LET_ALL);
            char last = cut.charAt(length - 1);
            char next = text.charAt(length);
            boolean inAWord = Character.isLetter(last) && Character.isLetter(next);
            if (whole) {
                reads(cut, cut.length() / 20);
            } else if (!inAWord) {
                faults(cut, 1, length);
                faults(cut + " \n ", 1, length + 3);
            }
        }
    }

    private static void longerRowsOfDigits() {
        stops("let all read thing #1234;");
        stops("let all read thing #0001;");
        stops("let all read thing #1234567890123;");
        stops("#1234");
        stops("let #1234 any all;");
        stops("let one 16 any thing #1234;");
        stops(WHEN + "1=#1234;");
        faults("let all any all;1234", 1, 16);
        stops("let all any all #1234;");
    }

    private static void oneGoesAhead() {
        stops("let group 8 any all#");
        stops("let group 8 any all;#x");
        stops("let group 8 any all;let one 16 any all;let#");
        stops(LET_ALL.repeat(13) + "#x");
        stops(LET_ALL.repeat(12) + "let#");
        stops(LET_ALL.repeat(12) + "let all any all#");
        stops("let group 8 any all;" + LET_ALL.repeat(12) + "let all any #1234;");
        stops("let one 16 any all when ((((((#owner))))));");
    }

    private static void firstOfTwoAndThree() {
        faults("let group 8 any kind 8;", 2, 10);
        faults("let group 7 any kind 8;let one 16 any all;", 2, 21);
        faults("let group 8 any all;" + LET_ALL.repeat(12), 2, 10);
        faults(LET_ALL.repeat(11) + "let all any level 6;" + LET_ALL, 2, 11 * 16 + 18);
        faults(LET_ALL.repeat(12) + "let group 8 any all;", 3, 12 * 16);
        faults(LET_ALL.repeat(13) + "let group 8 any all;", 3, 12 * 16);
    }

    private static void top(String ahead, int top, String behind) {
        for (int number = 0; number <= 20; number++) {
            String text = ahead + number + behind;
            if (number <= top) {
                reads(text, 1);
            } else {
                faults(text, 2, ahead.length());
            }
        }
        reads(ahead + String.format("%03d", top) + behind, 1);
        faults(ahead + "99" + behind, 2, ahead.length());
        faults(ahead + "100" + behind, 2, ahead.length());
        faults(ahead + "256" + behind, 2, ahead.length());
        faults(ahead + "999" + behind, 2, ahead.length());
    }

    private static void numbersOfGroupAndKind() {
        top("let group ", 7, " any all;");
        top("let all any kind ", 7, ";");
    }

    private static void numbersOfClearanceAndLevel() {
        top("stop clear ", 5, " any all;");
        top("stop all any level ", 5, ";");
    }

    private static void numbersOfPeopleAndThings() {
        top("let one ", 15, " any all;");
        top("let all any thing ", 15, ";");
    }

    /** NUMBERS of an E are those of no GROUP, KIND or other. */
    private static void numbersOfNone() {
        reads(WHEN + "clear=6 or level=6 or kind=8 or groups=9 or hour=24;", 1);
        reads(WHEN + "999=clear and 999=level and 999=kind and 999=groups and 999=hour;", 1);
    }

    private static void thirteenthLine() {
        reads(LET_ALL.repeat(12), 12);
        faults(LET_ALL.repeat(13), 3, 192);
        faults(LET_ALL.repeat(14), 3, 192);
        faults(LET_ALL.repeat(37), 3, 192);
        faults(LET_ALL.repeat(12) + " \nstop all any all;", 3, 194);
        faults("by let;" + LET_ALL.repeat(13), 3, 199);
        reads("by let;" + LET_ALL.repeat(12), 12);
    }

    private static void parts() {
        Checks.sentence("RULES, in SLOTS 0 .. 3.", TextEdgesTest::slots);
        Checks.sentence("THE TAPE has at most 600 bytes.", TextEdgesTest::tapeOf600);
        Checks.sentence("TOKENS, as long as they go", TextEdgesTest::asLongAsTheyGo);
        Checks.sentence("blanks (10, 32) between", TextEdgesTest::blanks);
        Checks.sentence("WORDS, rows of letters a .. z", TextEdgesTest::letters);
        Checks.sentence("NUMBERS, 1 to 3 digits", TextEdgesTest::digits);
        Checks.sentence("signs ; ( ) &lt; &gt; = one byte each.", TextEdgesTest::signs);
        Checks.sentence("TEXT: ['by' ('first' | 'last' | 'stop' | 'let') ';'] {LINE}.", TextEdgesTest::byOrNot);
        Checks.sentence("{LINE}", TextEdgesTest::noLinesOrMore);
        Checks.sentence("WHO: 'all' | 'group' NUMBER | 'one' NUMBER | 'owner' | 'clear' NUMBER.", TextEdgesTest::wordsOfWho);
        Checks.sentence("ACT: 'any' | 'read' | 'write' | 'share' | 'drop'.", TextEdgesTest::wordsOfAct);
        Checks.sentence("WHAT: 'all' | 'kind' NUMBER | 'thing' NUMBER | 'level' NUMBER.", TextEdgesTest::wordsOfWhat);
        Checks.sentence("LINE: ('let' | 'stop') WHO ACT WHAT ['when' E] ';'.", TextEdgesTest::whenOrNot);
        Checks.sentence("E: C {'or' C}. C: N {'and' N}.", TextEdgesTest::oneOrMoreJoined);
        Checks.sentence("N: ['not'] P.", TextEdgesTest::atMostOneNot);
        Checks.sentence("P: '(' E ')' | T ('&lt;' | '&gt;' | '=') T | 'owner'.", TextEdgesTest::wordsOfP);
        Checks.sentence("T: NUMBER | 'hour' | 'clear' | 'level' | 'kind' | 'groups'.", TextEdgesTest::wordsOfT);
        Checks.sentence("At most 6 E may be open at one place", TextEdgesTest::atMostSixOpen);
        Checks.sentence("(a further one can't stand there: 1 at its first token)", TextEdgesTest::aSeventhAtItsFirstToken);
    }

    private static void faultsOfTexts() {
        Checks.sentence("FAULTS, with their places (a token's first byte; the end's)", TextEdgesTest::places);
        Checks.sentence("(a longer row of digits is no token)", TextEdgesTest::longerRowsOfDigits);
        Checks.sentence("If there is none:", TextEdgesTest::oneGoesAhead);
        Checks.sentence("the first of these:", TextEdgesTest::firstOfTwoAndThree);
        Checks.sentence("of a GROUP or KIND 0 .. 7", TextEdgesTest::numbersOfGroupAndKind);
        Checks.sentence("CLEARANCE or LEVEL 0 .. 5", TextEdgesTest::numbersOfClearanceAndLevel);
        Checks.sentence("one of the PEOPLE or THINGS 0 .. 15.", TextEdgesTest::numbersOfPeopleAndThings);
        Checks.sentence("2 a NUMBER that can't be:", TextEdgesTest::numbersOfNone);
        Checks.sentence("3 a 13th LINE, at its first token.", TextEdgesTest::thirteenthLine);
    }

    public static void main(String[] args) {
        parts();
        faultsOfTexts();
        Checks.finish();
    }
}
