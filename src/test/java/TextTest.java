/** The language of lines: what is read, and each FAULT with its place. */
public final class TextTest {
    private static void reads(String text, int lines) {
        Checks.reads(text, lines);
    }

    private static void faults(String text, int fault, int place) {
        Checks.faults(text, fault, place);
    }

    private static void stops(String marked) {
        Checks.stops(marked);
    }

    private static void wellFormed() {
        reads("", 0);
        reads(" \n \n", 0);
        reads("by first;", 0);
        reads("by last ;", 0);
        reads("by stop;", 0);
        reads(" by\nlet\n;\n", 0);
        reads("let all any all;", 1);
        reads("  let\nall any  all ;  ", 1);
        reads("stop group 7 read kind 7;let one 15 write thing 15;stop owner share level 5;let clear 5 drop all;", 4);
        reads("let group7read kind7;", 1);
        reads("let group 007 any kind 000;", 1);
        reads("let all any all when owner;", 1);
        reads("let all any all when not owner;", 1);
        reads("let all any all when not(owner);", 1);
        reads("let all any all when not(not owner);", 1);
        reads("let all any all when 1<2and 3>4or 5=6;", 1);
        reads("let all any all when hour<clear and level>kind and groups=999;", 1);
        reads("let all any all when 999=level or clear=6 or kind>8 or hour>24;", 1);
        reads("let all any all when(((((owner or 1>2)))));", 1);
        reads("let all any all when (((((1=1))))) and (((((1=1)))));", 1);
        reads("let all any all;".repeat(12), 12);
        reads("by let;" + "let all any all;\n".repeat(12), 12);
    }

    private static void noSuchText() {
        stops("#grant all read all;");
        stops("#letall any all;");
        stops("let#ALL any all;");
        stops("#Let all any all;");
        stops("#;");
        stops("#\tlet all any all;");
        stops("let all any all;#\r");
        stops("let all any all;#\0");
        stops("let all any all;#\u00ff");
        stops("let all any all;#;");
        stops("let all any all;#by last;");
        stops("by#");
        stops("by #middle;");
        stops("by #;");
        stops("by last#");
        stops("by last #let all any all;");
        stops("by last;#by last;");
        stops("by let #let all any all;");
        stops("let#");
        stops("let #let all any all;");
        stops("let #any any all;");
        stops("let all#");
        stops("let all #all all;");
        stops("let all #3 any all;");
        stops("let group #read all;");
        stops("let group#;");
        stops("let owner #3 any all;");
        stops("let all read#");
        stops("let all read  #");
        stops("let all read #group 3;");
        stops("let all read all#");
        stops("let all read all \n#");
        stops("let all read all #3;");
        stops("let all read kind #;");
        stops("let all read #owner;");
        stops("let all read thing #1234;");
        stops("let all read thing #0001;");
        stops("let all read all when hour<#1000;");
        stops("let all read #1234;");
        stops("let all read thing 12#x;");
        stops("let all read thing 12 #x;");
        stops("let all read all #owner;");
        stops("let all any #al");
    }

    private static void noSuchWhen() {
        stops("let all any all when#");
        stops("let all any all when#;");
        stops("let all any all when hour#;");
        stops("let all any all when hour#");
        stops("let all any all when hour <#");
        stops("let all any all when hour <#;");
        stops("let all any all when hour <#<1;");
        stops("let all any all when 1<2#<3;");
        stops("let all any all when not #not owner;");
        stops("let all any all when owner and#;");
        stops("let all any all when owner or#;");
        stops("let all any all when owner or #or owner;");
        stops("let all any all when owner #not owner;");
        stops("let all any all when owner#=1;");
        stops("let all any all when 1=#owner;");
        stops("let all any all when #group=1;");
        stops("let all any all when #all;");
        stops("let all any all when (owner#;");
        stops("let all any all when (owner#");
        stops("let all any all when owner#);");
        stops("let all any all when (#);");
        stops("let all any all when (1#)=1;");
        stops("let all any all when 1=#(1);");
        stops("let all any all when owner #when owner;");
        stops("let all any all when owner #let all any all;");
        stops("let all any all when ((((((#1=1))))));");
        stops("let all any all when (((((( #\0;");
        stops("let all any all when ((((((#");
        stops("let all any all when ((((((#))))));");
        stops("let all any all when (((((( \n#");
        stops("let all any all when owner or not((((((#owner))))));");
        stops("let all any all when (owner) and ((((((#owner))))));");
        stops("let all any all when ((((((#1234=1))))));");
    }

    private static void numbersAndLines() {
        faults("let group 8 read all;", 2, 10);
        faults("let one 16 read all;", 2, 8);
        faults("let clear 6 read all;", 2, 10);
        faults("let all read kind 8;", 2, 18);
        faults("let all read thing 16;", 2, 19);
        faults("let all read level 6;", 2, 19);
        faults("let all read level\n 999;", 2, 20);
        faults("let one 16 read level 6;let group 8 any all;", 2, 8);
        faults("let all any all;".repeat(13), 3, 192);
        faults("let all any all;".repeat(14), 3, 192);
        faults("by last;" + "let all any all;".repeat(12) + "  stop all any all;", 3, 202);
        faults("let all any all;".repeat(12) + "let one 16 any all;", 3, 192);
        faults("let all any all;".repeat(11) + "let one 16 any all;let all any all;", 2, 184);
    }

    /** 1 goes ahead of the others, wherever they stand. */
    private static void whichFault() {
        stops("let one 16 any all#");
        stops("let one 16 any all;#x");
        stops("let all any all;".repeat(13) + "let#");
        stops("let all any all;".repeat(12) + "let one 16 any all when#;");
        stops("let group 9 any all when ((((((#owner))))));");
        stops("let one 16 any thing #0016;");
    }

    private static void parts() {
        RulesTried x = new RulesTried();
        Checks.rules(x, 0, "let all read all;stop group 3 write kind 4;let one 12 share thing 13;stop owner drop level 2 when 1=2;"
            + "let clear 5 any all when owner;");
        int[][] want = {
            {1, 0, 0, 0, 0, 0, 0}, {0, 1, 3, 1, 1, 4, 0}, {1, 2, 12, 2, 2, 13, 0}, {0, 3, 0, 3, 3, 2, 1}, {1, 4, 5, 4, 0, 0, 1}};
        for (int line = 0; line < want.length; line++) {
            for (int what = 0; what < 7; what++) {
                Checks.due("line " + line + " part " + what, x.line(0, line, what), want[line][what]);
            }
        }
    }

    public static void main(String[] args) {
        wellFormed();
        noSuchText();
        noSuchWhen();
        numbersAndLines();
        whichFault();
        parts();
        Checks.finish();
    }
}
