import java.util.function.IntUnaryOperator;

/** What the tests share: they print every answer that is not due, and end with exit code 1 if there was one. */
final class Check {
    private static int asked = 0;
    private static int wrong = 0;
    private static String under = "";

    private Check() {
    }

    /** What stands ahead of all that is printed from now on: the sentence that is looked at. */
    static void under(String words) {
        under = words;
    }

    static int asked() {
        return asked;
    }

    static void due(String call, long got, long want) {
        asked++;
        if (got != want) {
            wrong++;
            if (wrong <= 50) {
                System.out.println(under + call + " answered " + got + ", due is " + want);
            }
        }
    }

    static void due(String call, boolean got, boolean want) {
        due(call, got ? 1 : 0, want ? 1 : 0);
    }

    static void due(String call, String got, String want) {
        due(call + ": " + got + " (due is " + want + ")", got.equals(want), true);
    }

    /** A number from least to most is taken; one below, one above and those far off are NONE. */
    static void range(String call, int least, int most, IntUnaryOperator of) {
        int[] taken = {least, Math.min(least + 1, most), Math.max(most - 1, least), most};
        for (int n : taken) {
            due(call + " takes " + n, of.applyAsInt(n) != HandHeirs.NONE, true);
        }
        int[] refused = {least - 1, most + 1, least - 2, most + 2, Integer.MIN_VALUE, Integer.MAX_VALUE};
        for (int n : refused) {
            due(call + " of " + n, of.applyAsInt(n), HandHeirs.NONE);
        }
    }

    /** Puts a text on the tape; it is filled up with blanks to twenties, which are taken back. */
    static void feedText(HandHeirs x, String text) {
        int rows = (text.length() + 19) / 20;
        for (int row = 0; row < rows; row++) {
            int[] five = new int[5];
            for (int i = 0; i < 20; i++) {
                int at = row * 20 + i;
                five[i / 4] = five[i / 4] << 8 | (at < text.length() ? text.charAt(at) & 255 : ' ');
            }
            x.feed(five[0], five[1], five[2], five[3], five[4]);
        }
        x.back(rows * 20 - text.length());
    }

    static int readText(HandHeirs x, String text) {
        feedText(x, text);
        return x.read();
    }

    static HandHeirs told(String text) {
        HandHeirs x = new HandHeirs();
        due("read of: " + text, readText(x, text), 0);
        return x;
    }

    static void sound(String text) {
        fault(text, 0, HandHeirs.NONE);
    }

    static void fault(String text, int number, int place) {
        HandHeirs x = new HandHeirs();
        due("read of: " + text, readText(x, text), number);
        due("place of: " + text, x.place(), place);
    }

    static void end() {
        System.out.println(wrong == 0 ? "all " + asked + " answers are as due" : wrong + " of " + asked + " answers are not as due");
        if (wrong != 0) {
            System.exit(1);
        }
    }
}
