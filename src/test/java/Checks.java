/** What the tests share: due answers, and texts put on the tape. */
final class Checks {
    private static int done = 0;
    private static int wrong = 0;

    private Checks() {
    }

    static void due(String call, int got, int want) {
        done++;
        if (got != want) {
            wrong++;
            System.out.println(call + " answered " + got + ", due is " + want);
        }
    }

    static void due(String call, boolean got, boolean want) {
        due(call, got ? 1 : 0, want ? 1 : 0);
    }

    static void finish() {
        System.out.println(done + " answers looked at, " + wrong + " not as due");
        if (wrong != 0) {
            System.exit(1);
        }
    }

    /** The five numbers whose bytes are 20 signs of the text from a place on, blanks behind its end. */
    static int[] twenty(String text, int from) {
        int[] numbers = new int[5];
        for (int i = 0; i < 20; i++) {
            int sign = from + i < text.length() ? text.charAt(from + i) : ' ';
            numbers[i / 4] = numbers[i / 4] << 8 | sign & 255;
        }
        return numbers;
    }

    /** An empty tape has this text alone. */
    static void put(RulesTried x, String text) {
        for (int from = 0; from < text.length(); from += 20) {
            int[] n = twenty(text, from);
            x.feed(n[0], n[1], n[2], n[3], n[4]);
        }
        due("end of '" + text + "'", x.end(text.length()), text.length());
    }

    static int rules(RulesTried x, int slot, String text) {
        put(x, text);
        return x.rules(slot);
    }
}
