import java.util.List;

/** The edges of laws, votes and years: Terms, section II, sentence by sentence. */
public final class EdgeLawTest {
    private static final int NONE = HandHeirs.NONE;
    private static final String SIX = "letter a 10; letter b 11; letter c 12; letter d 13; letter e 14; letter f 15; ";
    /** The least and the most that 32 bits have. */
    private static final String LEAST = "2048*1024*1024";
    private static final String MOST = "(2048*1024*1024-1)";

    public static void main(String[] args) {
        offs();
        lessons();
        ifs();
        wrapping();
        rounding();
        dividedByNothing();
        whatMastersLookAt();
        whatLearnLooksAt();
        whatDriftLooksAt();
        mastersAreHeld();
        learnIsALetter();
        driftIsHeld();
        sums();
        trembling();
        lots();
        votes();
        mostVotes();
        nobodys();
        daysOfAYear();
        judgedThenWorn();
        handIsHeld();
        ledInTheBook();
        Doc.termsAreQuoted("OFF of an HEIR", "then it is the next year.");
        Check.end();
    }

    private static void offs() {
        Doc.terms(7, "OFF of an HEIR and a LETTER: how far his SHAPE and the HAND's are apart.");
        int[][] pairs = {{40, 40, 0}, {39, 40, 1}, {41, 40, 1}, {30, 40, 10}, {50, 40, 10}, {0, 99, 99}, {99, 0, 99}, {0, 0, 0}, {99, 99, 0}};
        for (int[] pair : pairs) {
            HandHeirs x = Check.told("letter a " + pair[1] + "; heir x 0 9 " + pair[0] + ";");
            Check.due("off of " + pair[0] + " and " + pair[1], x.shape(0, 0, 2), pair[2]);
        }
    }

    private static void lesson(int skill, int own, int then) {
        HandHeirs x = Check.told("letter a 50; heir x " + skill + " 0 " + own + ";");
        String call = "a lesson with skill " + skill + " from " + own;
        Check.due("off by " + call, x.lesson(0, 0, 1), Math.abs(then - 50));
        Check.due("shape by " + call, x.shape(0, 0, 0), then);
    }

    private static void lessons() {
        Doc.terms(12, "A LESSON in a LETTER, a day: his SHAPE comes nearer to the HAND's by his SKILL, or all that it is OFF.");
        lesson(9, 40, 49);
        lesson(9, 41, 50);
        lesson(9, 42, 50);
        lesson(9, 49, 50);
        lesson(9, 50, 50);
        lesson(9, 51, 50);
        lesson(9, 58, 50);
        lesson(9, 59, 50);
        lesson(9, 60, 51);
        lesson(0, 0, 0);
        lesson(0, 99, 99);
        lesson(1, 0, 1);
        lesson(1, 99, 98);
        lesson(49, 0, 49);
        lesson(50, 0, 50);
        lesson(51, 0, 50);
        lesson(99, 0, 50);
        lesson(99, 99, 50);
        HandHeirs x = Check.told("letter a 99; heir x 98 0 0; heir y 99 0 0;");
        Check.due("skill 98", x.lesson(0, 0, 1), 1);
        Check.due("skill 99", x.lesson(1, 0, 1), 0);
    }

    /** What a master's law tells of one letter with the hand 40 and own 33. */
    private static void tells(String law, int want) {
        HandHeirs x = Check.told("letter a 40; heir h 0 0 33; master m = " + law + ";");
        Check.due("unlike by " + law, x.unlike(0, 0), want);
    }

    private static void ifs() {
        Doc.terms(9, "LAWS: the E of the first if that holds (one less than the other), else the last one;");
        tells("if off < 6 then 1 else 2", 2);
        tells("if off < 7 then 1 else 2", 2);
        tells("if off < 8 then 1 else 2", 1);
        tells("if 0 - 1 < 0 then 1 else 2", 1);
        tells("if 0 < 0 - 1 then 1 else 2", 2);
        tells("if " + LEAST + " < " + MOST + " then 1 else 2", 1);
        tells("if " + MOST + " < " + LEAST + " then 1 else 2", 2);
        tells("if " + LEAST + " < 1 then 1 else 2", 1);
        tells("if 0 - 2 < " + MOST + " then 1 else 2", 1);
        tells("5", 5);
        for (int holds = 0; holds < 16; holds++) {
            StringBuilder law = new StringBuilder();
            int want = 9;
            for (int i = 3; i >= 0; i--) {
                boolean one = (holds >> i & 1) == 1;
                law.insert(0, "if 5 < " + (one ? 6 : 5) + " then " + (i + 1) + " else ");
                want = one ? i + 1 : want;
            }
            tells(law + "9", want);
        }
        tells("if 1 < 2 then 3 else 4 + 5", 3);
        tells("if 2 < 1 then 3 else 4 + 5", 9);
        tells("if 1 + 1 < 2 * 2 - 1 then 3 * 2 else 4", 6);
    }

    private static void wrapping() {
        Doc.terms(9, "ints of 32 bits that wrap,");
        tells("if " + MOST + " < 0 then 1 else 2", 2);
        tells("if " + MOST + " + 1 < 0 then 1 else 2", 1);
        tells("if " + LEAST + " < 0 then 1 else 2", 1);
        tells("if " + LEAST + " - 1 < 0 then 1 else 2", 2);
        tells("if 0 - " + LEAST + " < 0 then 1 else 2", 1);
        tells(LEAST + "/(0 - 1)/1024/1024 + 2050", 2);
        tells(MOST + "/1024/1024/3", 682);
        tells("2*" + LEAST + " + 7", 7);
        tells("4096*1024*1024 + 5", 5);
        tells("4096*1024*1023 + 4096*1024 + 6", 6);
        // 9999 * 9999 * 9999 is 999700029999; less 233 times 4294967296 it is -1027349969
        tells("9999*9999*9999", 0);
        tells("(0 - 9999*9999*9999)/9999/1000", 102);
        tells("(9999*9999*9999 + 9999*9999*9)/9999/(0-1000)", 12);
    }

    private static void rounding() {
        Doc.terms(9, "/ rounded towards 0;");
        tells("7/2", 3);
        tells("6/2", 3);
        tells("5/2", 2);
        tells("1/2", 0);
        tells("10 + (0 - 7)/2", 7);
        tells("10 + 7/(0 - 2)", 7);
        tells("(0 - 7)/(0 - 2)", 3);
        tells("10 + (0 - 6)/2", 7);
        tells("10 + (0 - 1)/2", 10);
        tells("10 + 1/(0 - 2)", 10);
        tells("0/7 + 10", 10);
    }

    private static void dividedByNothing() {
        Doc.terms(9, "a LAW in which something that is looked at is divided by 0 is 0.");
        tells("5 + 1/0", 0);
        tells("5 + 0/0", 0);
        tells("5 + 1/1", 6);
        tells("5 + 1/(0 - 1)", 4);
        tells("5 + 0*(1/0)", 0);
        tells("5 + 1/(1/2)", 0);
        tells("5 + 6/(off - 6)", 11);
        tells("5 + 6/(off - 7)", 0);
        tells("5 + 6/(8 - off)", 11);
        tells("5 + " + LEAST + "/0", 0);
        tells("if 1 < 2 then 5 else 1/0", 5);
        tells("if 2 < 1 then 1/0 else 5", 5);
        tells("if 1 < 2 then 5 + 1/0 else 6", 0);
        tells("if 2 < 1 then 5 else 6 + 1/0", 0);
        tells("if 1/0 < 1 then 5 else 6", 0);
        tells("if 0 - 1 < 1/0 then 5 else 6", 0);
        tells("if 1 < 2 then 5 else if 1/0 < 1 then 6 else 7", 5);
        tells("if 2 < 1 then 5 else if 1/0 < 1 then 6 else 7", 0);
        tells("if 2 < 1 then 1/0 else if 1 < 2 then 6 else 1/0", 6);
        tells("if 2 < 1 then 1/0 else if 2 < 1 then 1/0 else if 2 < 1 then 1/0 else if 2 < 1 then 1/0 else 7", 7);
        // in DRIFT and LEARN as well
        HandHeirs x = Check.told("letter a 50; letter b 50; heir x 0 0; master m = 0; drift = 5 + 1/0; learn x = 1 + 1/0;");
        Check.due("learn", x.heir(0, 4), 0);
        x.years(1);
        Check.due("drift", x.hand(0), 50);
    }

    private static void whatMastersLookAt() {
        Doc.terms(9, "off; letter: its number");
        tells("off", 7);
        for (int letter = 0; letter < 6; letter++) {
            HandHeirs x = Check.told(SIX + "heir h 0 0 1 3 5 7 9 11; master m = if letter < " + letter + " then 0 else if " + letter
                + " < letter then 0 else 100*letter + off;");
            Check.due("letter " + letter + " and its off", x.unlike(0, 0), 100 * letter + 9 - letter);
        }
        Doc.terms(9, "year; worn: how often eyes were worn");
        HandHeirs x = Check.told("letter a 40; heir h 0 0; master m = year; master n = worn; days 0;");
        for (int year = 0; year < 5; year++) {
            Check.due("year", x.unlike(0, 0), year);
            Check.due("worn", x.unlike(0, 1), year);
            x.years(1);
        }
        for (int i = 0; i < 4; i++) {
            x.years(99);
        }
        Check.due("year 401", x.unlike(0, 0), 401);
        Check.due("worn 401", x.unlike(0, 1), 401);
        Doc.terms(9, "own: the HEIR's SHAPE, as he writes it");
        x = Check.told(SIX + "heir h 0 9 50 50 50; seed 9999; master m = if letter < 1 then own else 0;"
            + "master n = if letter < 1 then off else 0; master o = if letter < 2 then letter*own else 0;");
        Check.due("own, 14 less 9 more", x.unlike(0, 0), 55);
        Check.due("off of that", x.unlike(0, 1), 45);
        Check.due("own, 18 less 9 more", x.unlike(0, 2), 59);
        Doc.terms(9, "hand: the HAND's SHAPE");
        tells("hand", 40);
        x = Check.told("letter a 40; heir h 0 0; master m = hand; drift = 3; days 0;");
        x.years(2);
        Check.due("hand after drift", x.unlike(0, 0), 46);
        Doc.terms(9, "(LEARN; others: 0).");
        tells("5 + day", 5);
        x = Check.told("letter a 40; heir h 0 0; master m = 100 + day; drift = 3 + day; days 9;");
        x.years(1);
        Check.due("day of DRIFT", x.hand(0), 43);
        Check.due("day of a MASTER", x.unlike(0, 0), 100);
    }

    /** What an heir learns of six letters when some years are gone. */
    private static int learns(String law, int years) {
        HandHeirs x = Check.told(SIX + "heir g 1 9; heir h 1 0 1 1 1 1 1 1; master m = 0; learn h = " + law + ";");
        x.years(years);
        return x.heir(1, 4);
    }

    private static void whatLearnLooksAt() {
        Doc.terms(8, "(LEARN: 0);");
        Check.due("letter", learns("3 + letter", 2), 3);
        Check.due("hand", learns("3 + hand", 2), 3);
        Doc.terms(8, "(LEARN, DRIFT: 0);");
        Check.due("worn", learns("3 + worn", 2), 3);
        Check.due("year", learns("3 + year", 2), 5);
        HandHeirs x = Check.told("letter a 40; heir h 0 0; master m = 0; drift = 2 + worn;");
        x.years(3);
        Check.due("worn of DRIFT", x.hand(0), 46);
        Doc.terms(8, "LEARN: 0, as off);");
        Check.due("own", learns("3 + own", 2), 3);
        Check.due("off", learns("3 + off", 2), 3);
        Doc.terms(8, "hand: the HAND's SHAPE (LEARN: 0);");
        Check.due("hand", learns("hand", 2), 0);
        Doc.terms(13, "day: the day of the year from 0 on");
        Check.due("day 0", learns("3 + day", 2), 3);
        for (int days = 0; days <= 9; days++) {
            x = Check.told("letter a 90; letter b 90; letter c 90; letter d 90; letter e 90; letter f 90; heir h 7 0 10 10 10 10 10 10;"
                + "learn h = day; days " + days + ";");
            x.years(2);
            for (int letter = 0; letter < 6; letter++) {
                int lessons = 2 * (days / 6 + (letter < days % 6 ? 1 : 0));
                Check.due("letter " + letter + " with days " + days, x.shape(0, letter, 0), 10 + 7 * lessons);
            }
        }
    }

    private static void whatDriftLooksAt() {
        Doc.terms(13, "(DRIFT: of who has the estate, as he has it, off likewise;");
        // y, who has no tremor, has it; x, who is the first, trembles and is far off
        String world = "letter a 50; letter b 60; heir x 0 9 90 90; heir y 0 0 53 64; master m = off; days 0; seed 9999; ";
        HandHeirs x = Check.told(world + "drift = own - 50;");
        x.years(1);
        Check.due("who has it", x.count(4), 1);
        Check.due("own of letter 0", x.hand(0), 53);
        Check.due("own of letter 1 is 14 more, held", x.hand(1), 69);
        x = Check.told(world + "drift = off;");
        x.years(1);
        Check.due("off of letter 0", x.hand(0), 53);
        Check.due("off of letter 1", x.hand(1), 64);
        // with seed 9999 he writes 55 and 59, which is 5 and 9 more than he has
        x = Check.told("letter a 50; letter b 50; heir x 0 9 52 51; master m = 0; days 0; seed 9999; drift = off;");
        x.years(1);
        Check.due("off as he has it", x.hand(0), 52);
        Check.due("off as he has it", x.hand(1), 51);
        x = Check.told("letter a 50; letter b 50; heir x 0 9 52 51; master m = 0; days 0; seed 9999; drift = own - 50;");
        x.years(1);
        Check.due("own as he has it", x.hand(0), 52);
        Check.due("own as he has it", x.hand(1), 51);
        x = Check.told("letter a 50; letter b 60; letter c 70; heir x 0 0; master m = 0; days 0; drift = letter + hand/60 + 4*year;");
        x.years(1);
        Check.due("letter 0, hand 50, year 0", x.hand(0), 50);
        Check.due("letter 1, hand 60, year 0", x.hand(1), 62);
        Check.due("letter 2, hand 70, year 0", x.hand(2), 73);
        x.years(1);
        Check.due("letter 0, hand 50, year 1", x.hand(0), 54);
        Check.due("letter 1, hand 62, year 1", x.hand(1), 68);
    }

    private static void mastersAreHeld() {
        Doc.terms(9, "A MASTER's LAW is held to 0 .. 999;");
        tells("0 - 1", 0);
        tells("0", 0);
        tells("1", 1);
        tells("998", 998);
        tells("999", 999);
        tells("1000", 999);
        tells("9999*9", 999);
        tells(MOST, 999);
        tells(LEAST, 0);
        HandHeirs x = Check.told("letter a 0; letter b 0; heir h 0 0; master m = 1000 - 1500*letter; master n = 998 + letter;");
        Check.due("each letter for itself", x.unlike(0, 0), 999);
        Check.due("each letter for itself", x.unlike(0, 1), 998 + 999);
    }

    private static void learnIsALetter() {
        Doc.terms(8, "LEARN is the LETTER, its rest by LETTERS (below 0: none is learned);");
        int[][] due = {{-7, -2}, {-6, -2}, {-1, -2}, {0, 0}, {1, 1}, {5, 5}, {6, 0}, {7, 1}, {11, 5}, {12, 0}, {9999, 3}};
        for (int[] one : due) {
            Check.due("learns " + one[0], learns(one[0] < 0 ? "0 - " + -one[0] : "" + one[0], 0), one[1]);
        }
        Check.due("the most", learns(MOST, 0), 1);
        Check.due("the least", learns(LEAST, 0), -2);
        for (int number : new int[] {0, 1, 2, 9999}) {
            Check.due("of one letter", Check.told("letter a 1; heir h 1 1; learn h = " + number + ";").heir(0, 4), 0);
            Check.due("of no letter", Check.told("heir h 1 1; learn h = " + number + ";").heir(0, 4), -2);
        }
        Check.due("of no letter, by no law", Check.told("heir h 1 1;").heir(0, 4), -2);
        Check.due("below 0 of one letter", Check.told("letter a 1; heir h 1 1; learn h = 0 - 1;").heir(0, 4), -2);
        HandHeirs x = Check.told("letter a 50; letter b 50; heir h 5 0 0 0; learn h = 0 - 1; days 9;");
        x.years(1);
        Check.due("none is learned", x.shape(0, 0, 0) + x.shape(0, 1, 0), 0);
        x = Check.told("letter a 50; letter b 50; heir h 5 0 0 0; learn h = day - 1; days 3;");
        x.years(1);
        Check.due("none on day 0, letter 0 on day 1", x.shape(0, 0, 0), 5);
        Check.due("letter 1 on day 2", x.shape(0, 1, 0), 5);
    }

    private static void driftIsHeld() {
        Doc.terms(13, "DRIFT held to -9 .. 9.");
        for (int drift : new int[] {-9999, -11, -10, -9, -8, -1, 0, 1, 8, 9, 10, 11, 9999}) {
            HandHeirs x = Check.told("letter a 50; heir h 0 0; master m = 0; drift = " + (drift < 0 ? "0 - " + -drift : "" + drift) + ";");
            x.years(1);
            Check.due("drift " + drift, x.hand(0), 50 + Math.max(-9, Math.min(9, drift)));
        }
        HandHeirs x = Check.told("letter a 50; heir h 0 0; master m = 0; drift = " + MOST + ";");
        x.years(1);
        Check.due("the most", x.hand(0), 59);
        x = Check.told("letter a 50; heir h 0 0; master m = 0; drift = " + LEAST + ";");
        x.years(1);
        Check.due("the least", x.hand(0), 41);
    }

    private static void sums() {
        Doc.terms(9, "UNLIKE of an HEIR to a MASTER: the sum, over all LETTERS, of what his LAW tells;");
        StringBuilder letters = new StringBuilder();
        int sum = 0;
        for (int count = 0; count <= 6; count++) {
            HandHeirs x = Check.told(letters + "heir h 0 0 1 2 4 8 16 32; heir i 0 0 50; master m = own; master n = 999;");
            Check.due("unlike with " + count + " letters", x.unlike(0, 0), sum);
            Check.due("the other with " + count + " letters", x.unlike(1, 0), 50 * count);
            Check.due("the most with " + count + " letters", x.unlike(0, 1), 999 * count);
            letters.append("letter l").append((char) ('a' + count)).append(" 0; ");
            sum += 1 << count;
        }
    }

    private static void trembling() {
        Doc.terms(7, "his SHAPES as he writes them: with TREMOR t of each LETTER LOT 2 * t + 1 less t more, held to 0 .. 99.");
        // by hand: with seed 9999 and TREMOR 9 LOT is 14, 18, 0, 1, 1, 10 for the first heir in year 0
        int[] lots = {14, 18, 0, 1, 1, 10};
        int[] own = {0, 1, 2, 7, 8, 9, 10, 50, 89, 90, 91, 97, 98, 99};
        for (int shape : own) {
            HandHeirs x = Check.told(SIX + ("heir h 0 9" + (" " + shape).repeat(6)) + "; seed 9999;");
            for (int letter = 0; letter < 6; letter++) {
                int due = Math.max(0, Math.min(99, shape + lots[letter] - 9));
                Check.due("letter " + letter + " of " + shape, x.shape(0, letter, 1), due);
                Check.due("as he has it", x.shape(0, letter, 0), shape);
            }
        }
        HandHeirs x = Check.told("letter a 5; letter b 5; letter c 5; heir h 0 9 0 90 9; seed 9999; master m = own;");
        Check.due("18 less 9 more than 90", x.shape(0, 1, 1), 99);
        Check.due("0 less 9 more than 9", x.shape(0, 2, 1), 0);
        Check.due("unlike, as he writes", x.unlike(0, 0), 5 + 99 + 0);
        // by hand: with seed 0 LOT of 1, 3, 5 .. 19 for the second letter
        int[] second = {0, 1, 4, 0, 7, 9, 6, 4, 11, 14};
        for (int t = 0; t <= 9; t++) {
            x = Check.told("letter a 5; letter b 5; heir h 0 " + t + ";");
            Check.due("with TREMOR " + t, x.shape(0, 1, 1), 50 + second[t] - t);
        }
        x = Check.told(SIX + "heir h 0 0 0 99 0 99 0 99; seed 9999;");
        for (int letter = 0; letter < 6; letter++) {
            Check.due("without TREMOR", x.shape(0, letter, 1), letter % 2 * 99);
        }
    }

    private static void lots() {
        Doc.terms(7, "LOT n of a SEED and a which: h is the SEED; for each of 27, which: h becomes (h and it, each bit of which is in just one) "
            + "times 1103515245 and 12345 more, then h and h moved 15 bits down (zeros come in), likewise; the rest of h, moved 1 bit down "
            + "likewise, by n (32 bits that wrap);");
        int[][] bySeed = {{6, 14, 16, 11, 2, 9}, {3, 3, 7, 13, 17, 6}, {14, 13, 9, 4, 18, 6}, {16, 16, 0, 8, 7, 14}, {18, 15, 14, 10, 18, 17}};
        for (int seed = 0; seed < 5; seed++) {
            HandHeirs x = Check.told(SIX + "heir h 0 9; seed " + seed + ";");
            for (int letter = 0; letter < 6; letter++) {
                Check.due("seed " + seed + ", letter " + letter, x.shape(0, letter, 1), 41 + bySeed[seed][letter]);
            }
        }
        Doc.terms(7, "which: 36 * the year + 6 * the HEIR + the LETTER.");
        HandHeirs x = Check.told(SIX + "heir h 0 9; heir i 0 9; heir j 0 9; heir k 0 9; heir l 0 9; heir m 0 9; seed 9999; days 0;");
        int[] year0 = {14, 18, 0, 1, 1, 10, 8, 14, 5, 14, 15, 14, 15, 10, 16, 7, 11, 7, 15, 10, 10, 16, 5, 12, 1, 12, 15, 6, 4, 14, 18, 14,
            16, 6, 0, 11};
        int[] year1 = {14, 9, 2, 12, 11, 18, 17, 16, 15, 9, 10, 1, 12, 7, 6, 0, 10, 8, 17, 3, 14, 13, 5, 16, 6, 4, 6, 16, 7, 5, 6, 1, 0, 8,
            17, 18};
        int[] year401 = {0, 17, 17, 3, 11, 1, 13, 6, 6, 2, 18, 10, 12, 18, 13, 10, 10, 9, 10, 2, 12, 15, 14, 5, 1, 13, 2, 9, 16, 11, 16, 7,
            9, 0, 16, 7};
        written(x, year0);
        x.years(1);
        written(x, year1);
        for (int i = 0; i < 4; i++) {
            x.years(100);
        }
        written(x, year401);
    }

    private static void written(HandHeirs x, int[] lots) {
        for (int i = 0; i < 36; i++) {
            Check.due("heir " + i / 6 + ", letter " + i % 6 + ", year " + x.count(3), x.shape(i / 6, i % 6, 1), 41 + lots[i]);
        }
    }

    private static String heirsAt(int... shapes) {
        StringBuilder text = new StringBuilder();
        for (int i = 0; i < shapes.length; i++) {
            text.append("heir h").append((char) ('a' + i)).append(" 0 0 ").append(shapes[i]).append("; ");
        }
        return text.toString();
    }

    private static void votes() {
        Doc.terms(10, "JUDGED: each MASTER votes for who is least UNLIKE to him, of alike ones the first;");
        String world = "letter a 50; master m = off; ";
        Check.due("one", Check.told(world + heirsAt(0)).vote(0), 0);
        Check.due("the second is less", Check.told(world + heirsAt(40, 41)).vote(0), 1);
        Check.due("alike", Check.told(world + heirsAt(40, 40)).vote(0), 0);
        Check.due("alike, from both sides", Check.told(world + heirsAt(60, 40)).vote(0), 0);
        Check.due("the second is more", Check.told(world + heirsAt(40, 39)).vote(0), 0);
        Check.due("the last of six", Check.told(world + heirsAt(0, 1, 2, 3, 4, 5)).vote(0), 5);
        Check.due("the last of six is alike", Check.told(world + heirsAt(0, 1, 2, 3, 5, 5)).vote(0), 4);
        Check.due("all alike", Check.told(world + heirsAt(5, 5, 5, 5, 5, 5)).vote(0), 0);
        HandHeirs x = Check.told("letter a 50; master m = own; master n = 99 - own; master o = 5; " + heirsAt(20, 10, 90, 90));
        Check.due("each by his own law", x.vote(0), 1);
        Check.due("each by his own law", x.vote(1), 2);
        Check.due("each by his own law", x.vote(2), 0);
    }

    /** Three masters, each of whom looks at the SHAPE of one letter, three letters, heirs with three SHAPES each. */
    private static HandHeirs three(int[]... heirs) {
        StringBuilder text = new StringBuilder("letter a 0; letter b 0; letter c 0; days 0;"
            + "master m = if letter < 1 then own else 0; master n = letter*(2 - letter)*own; master o = letter*(letter - 1)/2*own;");
        for (int i = 0; i < heirs.length; i++) {
            text.append("heir h").append((char) ('a' + i)).append(" 0 0 ");
            text.append(heirs[i][0]).append(' ').append(heirs[i][1]).append(' ').append(heirs[i][2]).append(';');
        }
        return Check.told(text.toString());
    }

    private static void mostVotes() {
        Doc.terms(11, "the estate goes to who has most votes, of alike ones to the one with the least sum of what he is UNLIKE to all MASTERS, "
            + "then the first;");
        Check.due("two votes, though the sum is more", three(new int[] {9, 0, 9}, new int[] {1, 98, 1}).judge(), 1);
        Check.due("three votes", three(new int[] {9, 9, 9}, new int[] {8, 8, 8}).judge(), 1);
        Check.due("three votes, all alike", three(new int[] {9, 9, 9}, new int[] {9, 9, 9}).judge(), 0);
        Check.due("one vote each, the last has the least sum",
            three(new int[] {1, 9, 9}, new int[] {9, 1, 9}, new int[] {9, 8, 1}).judge(), 2);
        Check.due("one vote each, the sums are alike",
            three(new int[] {1, 9, 9}, new int[] {9, 1, 9}, new int[] {9, 9, 1}).judge(), 0);
        Check.due("one vote each, the last two have the least sum",
            three(new int[] {1, 9, 9}, new int[] {9, 1, 8}, new int[] {8, 9, 1}).judge(), 1);
        Check.due("the least sum of all, but no vote",
            three(new int[] {1, 9, 9}, new int[] {9, 1, 9}, new int[] {9, 8, 1}, new int[] {2, 2, 2}).judge(), 2);
        Check.due("no vote for the first",
            three(new int[] {2, 2, 2}, new int[] {1, 9, 9}, new int[] {9, 1, 9}, new int[] {9, 8, 1}).judge(), 3);
        HandHeirs x = three(new int[] {9, 0, 9}, new int[] {1, 98, 1});
        x.years(1);
        Check.due("in a YEAR likewise", x.count(4), 1);
    }

    private static void nobodys() {
        Doc.terms(11, "it is nobody's if that sum is above LIMIT, or there are no HEIRS, no MASTERS.");
        String world = "letter a 50; letter b 50; heir x 0 0 45 47; master m = off; master n = 2*off; ";
        Check.due("sum 24, limit 25", Check.told(world + "limit 25;").judge(), 0);
        Check.due("sum 24, limit 24", Check.told(world + "limit 24;").judge(), 0);
        Check.due("sum 24, limit 23", Check.told(world + "limit 23;").judge(), -2);
        // the one with most votes is above LIMIT; another one who is not does not have it for that
        String votes = "letter a 0; letter b 0; heir x 0 0 9 0; heir y 0 0 1 98; master m = if letter < 1 then own else 0;"
            + "master n = if letter < 1 then own else 0; master o = letter*own; ";
        Check.due("sum 100, limit 100", Check.told(votes + "limit 100;").judge(), 1);
        Check.due("sum 100, limit 99", Check.told(votes + "limit 99;").judge(), -2);
        Check.due("no heirs", Check.told("letter a 50; master m = 0;").judge(), -2);
        Check.due("no masters", Check.told("letter a 50; heir x 0 0;").judge(), -2);
        Check.due("neither", Check.told("letter a 50;").judge(), -2);
        Check.due("no letters, but both", Check.told("heir x 0 0; master m = 999; limit 0;").judge(), 0);
        HandHeirs x = Check.told(world + "limit 23; days 0; drift = 1;");
        x.years(1);
        Check.due("in a YEAR likewise", x.count(4), -2);
        Check.due("in the book likewise", x.book(0, NONE), -2);
    }

    private static void daysOfAYear() {
        Doc.terms(13, "A YEAR: on each of its DAYS, HEIR by HEIR, a LESSON in the LETTER that he LEARNS;");
        for (int days : new int[] {0, 1, 2, 8, 9}) {
            HandHeirs x = Check.told("letter a 50; letter b 50; heir x 2 0 0 0; heir y 3 0 99 99; learn x = day; learn y = year; days " + days + ";");
            x.years(1);
            Check.due("x, a, days " + days, x.shape(0, 0, 0), 2 * ((days + 1) / 2));
            Check.due("x, b, days " + days, x.shape(0, 1, 0), 2 * (days / 2));
            Check.due("y, a, days " + days, x.shape(1, 0, 0), 99 - 3 * days);
            Check.due("y, b, days " + days, x.shape(1, 1, 0), 99);
            x.years(1);
            Check.due("y, b, days " + days, x.shape(1, 1, 0), 99 - 3 * days);
        }
        // without a law what is most off changes from day to day
        HandHeirs x = Check.told("letter a 50; letter b 50; heir x 6 0 40 41; days 2;");
        x.years(1);
        Check.due("a on day 0", x.shape(0, 0, 0), 46);
        Check.due("b on day 1", x.shape(0, 1, 0), 47);
    }

    private static void judgedThenWorn() {
        Doc.terms(13, "then it is JUDGED, all eyes are worn by one more;");
        HandHeirs x = Check.told("letter a 50; heir x 5 0 40; heir y 0 0 44; master m = off; days 1;");
        Check.due("before its lesson", x.judge(), 1);
        x.years(1);
        Check.due("after its lesson", x.count(4), 0);
        x = Check.told("letter a 50; heir x 0 0; heir y 0 0; master m = worn; limit 2;");
        for (int year = 0; year < 5; year++) {
            Check.due("eyes in year " + year, x.count(5), year);
            x.years(1);
            Check.due("judged by eyes worn " + year, x.count(4), year <= 2 ? 0 : -2);
        }
        x = new HandHeirs();
        x.years(100);
        Check.due("eyes of 100 years of nothing", x.count(5), 100);
    }

    private static void handIsHeld() {
        Doc.terms(13, "then, if one has the estate, each SHAPE of the HAND changes by DRIFT, held to 0 .. 99 then;");
        for (int drift = 0; drift <= 9; drift++) {
            for (int hand : new int[] {0, 1, 2, 8, 9, 10, 50, 89, 90, 91, 97, 98, 99}) {
                HandHeirs x = Check.told("letter a " + hand + "; letter b " + hand + "; heir h 0 0; master m = 0; drift = " + drift
                    + "*(1 - 2*letter);");
                x.years(1);
                Check.due("from " + hand + " up by " + drift, x.hand(0), Math.min(99, hand + drift));
                Check.due("from " + hand + " down by " + drift, x.hand(1), Math.max(0, hand - drift));
            }
        }
        HandHeirs x = Check.told("letter a 50; letter b 50; heir h 0 0; master m = 10; drift = 1; limit 19;");
        x.years(3);
        Check.due("nobody has it", x.hand(0) + x.hand(1), 100);
        x = Check.told("letter a 50; letter b 50; heir h 0 0; master m = 10; drift = 1; limit 20;");
        x.years(3);
        Check.due("one has it", x.hand(0) + x.hand(1), 106);
    }

    private static void ledInTheBook() {
        Doc.terms(15, "HAND and who has it are led in the book of that year (400 years; later ones are not); then it is the next year.");
        HandHeirs x = Check.told("letter a 0; letter b 99; heir x 0 0 0 99; heir y 0 0 9 90; days 0; drift = if year < 398 then 0 else"
            + " if letter < 1 then 1 else 0 - 1; master m = if year < 399 then own else if year < 400 then 99 - own else 0;");
        for (int i = 0; i < 3; i++) {
            x.years(100);
        }
        Check.due("years(98)", x.years(98), 398);
        for (int year = 399; year <= 402; year++) {
            Check.due("years(1)", x.years(1), year);
            Check.due("the year", x.count(3), year);
            Check.due("years in the book", x.count(8), Math.min(400, year));
            for (int page : List.of(397, 398, 399, 400, 401, 402)) {
                boolean led = page < Math.min(400, year);
                Check.due("book(" + page + ", 0) in " + year, x.book(page, 0), led ? Math.max(0, page - 398) : NONE);
                Check.due("book(" + page + ", 1) in " + year, x.book(page, 1), led ? 99 - Math.max(0, page - 398) : NONE);
                // x is 99 unlike in all, y too: the first has it
                Check.due("book(" + page + ", NONE) in " + year, x.book(page, NONE), led ? 0 : NONE);
            }
        }
        Check.due("the hand goes on", x.hand(0), 4);
        x = Check.told("letter a 50; heir x 0 0 0; heir y 0 0 9; days 0; master m = if year < 399 then own else if year < 400 then 99 - own"
            + " else own;");
        for (int i = 0; i < 4; i++) {
            x.years(100);
        }
        Check.due("who in 398", x.book(398, NONE), 0);
        Check.due("who in 399", x.book(399, NONE), 1);
        x.years(1);
        Check.due("who in 399 stays", x.book(399, NONE), 1);
        Check.due("who in 400 is not led", x.book(400, NONE), NONE);
        Check.due("who has it", x.count(4), 0);
    }
}
