import java.util.Arrays;

/** What the tests share: due answers, and texts put on the tape. */
final class Checks {
    private static int done = 0;
    private static int wrong = 0;
    private static String sentence = "";

    private Checks() {
    }

    static void due(String call, int got, int want) {
        done++;
        if (got != want) {
            wrong++;
            System.out.println(sentence + call + " answered " + got + ", due is " + want);
        }
    }

    static void due(String call, boolean got, boolean want) {
        due(call, got ? 1 : 0, want ? 1 : 0);
    }

    /** The test of one sentence of the document, whose words stand ahead of each answer that is not as due. */
    static void sentence(String words, Runnable test) {
        int before = done;
        sentence = "'" + words + "': ";
        test.run();
        due("answers looked at", done > before, true);
        sentence = "";
    }

    static void finish() {
        System.out.println(done + " answers looked at, " + wrong + " not as due");
        if (wrong != 0) {
            System.exit(1);
        }
    }

    /** Numbers that are not 0 .. top: just beside them, twice as far, whole bytes off, and at the ends of all numbers. */
    static int[] outside(int top) {
        int[] far = {-1, -2, -top - 1, top + 1, top + 2, 2 * top + 2, 256, 512, 65536, 1 << 24, 1 << 30, Integer.MIN_VALUE,
            Integer.MIN_VALUE + 1, Integer.MAX_VALUE - 1, Integer.MAX_VALUE};
        return Arrays.stream(far).filter(n -> n < 0 || n > top).toArray();
    }

    /** The five numbers whose bytes are 20 signs of the text from a place on, blanks behind its end. */
    static int[] twenty(String text, int from) {
        int[] numbers = new int[5];
        for (int i = 0; i < 20; i++) {
            int sign = from + i < text.length() ? text.charAt(from + i) : ' ';
            numbers[i / 4] = numbers[i / 4] << 8 | sign & 255;
        }
        return numbers;
    }

    /** An empty tape has this text alone. */
    static void put(RulesTried x, String text) {
        for (int from = 0; from < text.length(); from += 20) {
            int[] n = twenty(text, from);
            x.feed(n[0], n[1], n[2], n[3], n[4]);
        }
        due("end of '" + text + "'", x.end(text.length()), text.length());
    }

    static int rules(RulesTried x, int slot, String text) {
        put(x, text);
        return x.rules(slot);
    }

    /** A text without a FAULT. */
    static void reads(String text, int lines) {
        RulesTried x = new RulesTried();
        due("rules of '" + text + "'", rules(x, 0, text), lines);
        due("fault of '" + text + "'", x.fault(0), 0);
        due("place of '" + text + "'", x.fault(1), RulesTried.NONE);
        due("lines of '" + text + "'", x.count(4), lines);
    }

    static void faults(String text, int fault, int place) {
        RulesTried x = new RulesTried();
        due("rules of '" + text + "'", rules(x, 0, text), RulesTried.NONE);
        due("fault of '" + text + "'", x.fault(0), fault);
        due("place of '" + text + "'", x.fault(1), place);
        due("lines of '" + text + "'", x.count(4), 0);
    }

    /** The text is at fault with 1 where the sign # stands in it, which is taken out. */
    static void stops(String marked) {
        int place = marked.indexOf('#');
        faults(marked.substring(0, place) + marked.substring(place + 1), 1, place);
    }
}
