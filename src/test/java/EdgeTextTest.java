import java.util.Arrays;
import java.util.List;

/** The edges of texts: Terms, section I, and promises 1 to 5, sentence by sentence. */
public final class EdgeTextTest {
    private static final int NONE = HandHeirs.NONE;
    private static final String WORDS = "letter heir master learn drift days limit seed if then else off year worn own hand day";
    private static final String SIGNS = "; = + - * / < ( )";
    private static final String TELLS = "letter heir master learn drift days limit seed";
    private static final String UNIT = "1 off letter year worn own hand day (";

    public static void main(String[] args) {
        textLength();
        blanks();
        longestTokens();
        names();
        ints();
        signs();
        noTokens();
        grammar();
        letters();
        heirs();
        masters();
        learns();
        drifts();
        days();
        limits();
        seeds();
        ofSeveral();
        firstByPlace();
        syntax();
        roomOfTokens();
        roomOfTells();
        roomOfShapes();
        roomOfIfs();
        roomOfBrackets();
        likewise();
        twice();
        noName();
        wrong();
        aFaultChangesNothing();
        inPlaceOfTheOneAhead();
        Doc.termsAreQuoted("A TEXT has", "SLOTS hold nothing.");
        promise1();
        promise2();
        promise3();
        promise4();
        promise5();
        Doc.promisesAreQuoted(1, 2, 3, 4, 5);
        Check.end();
    }

    private static boolean isIn(String row, String token) {
        return Arrays.asList(row.split(" ")).contains(token);
    }

    private static boolean isBlank(int b) {
        return b == 9 || b == 10 || b == 13 || b == 32;
    }

    private static boolean isSmall(int b) {
        return b >= 97 && b <= 122;
    }

    private static boolean isDigit(int b) {
        return b >= 48 && b <= 57;
    }

    private static void textLength() {
        Doc.terms(2, "A TEXT has 2,000 bytes at most.");
        for (int length : new int[] {1980, 1981, 1999, 2000}) {
            HandHeirs x = new HandHeirs();
            Check.feedText(x, " ".repeat(length - 7) + "days 7;");
            Check.due("bytes", x.count(9), length);
            Check.due("read of " + length, x.read(), 0);
            Check.due("its last TELL counts", x.count(6), 7);
            Check.fault(" ".repeat(length - 6) + "days 7", 1, length);
            Check.fault(" ".repeat(length - 1) + "\u00ff", 1, length - 1);
        }
        HandHeirs x = new HandHeirs();
        Check.feedText(x, " ".repeat(2000));
        Check.due("a 2001st does not come", x.feed(0, 0, 0, 0, 0), NONE);
        Check.due("bytes", x.count(9), 2000);
        Check.due("read", x.read(), 0);
    }

    private static void blanks() {
        Doc.terms(4, "with blanks (9, 10, 13, 32) between or not");
        for (int b = 0; b <= 255; b++) {
            String text = "letter" + (char) b + "a 1;";
            Check.fault(text, isBlank(b) ? 0 : 1, isBlank(b) ? NONE : isSmall(b) ? 0 : 6);
        }
        Check.sound("letter a1;letter b 1;letter\tc\n1\r;");
        Check.sound("\t\n\r letter \t a \n 1 \r ; \t\n\r ");
        Check.sound("master m=if1<2then(off)else 4+5-6*7/8;");
        Check.sound(" ");
        Check.sound("");
    }

    private static void longestTokens() {
        Doc.terms(4, "TOKENS, the longest that can be,");
        Check.due("12 is one INT", Check.told("letter a 12;").hand(0), 12);
        Check.due("1 2 are two", Check.told("heir a 1 2;").heir(0, 1), 2);
        Check.fault("heir a 12;", 1, 9);
        Check.fault("heir a 1 23;", 5, 9);
        Check.fault("lettera 1;", 1, 0);
        Check.fault("letter ab 1; letter a 1; letter b 1; letter ab 1;", 3, 44);
        Check.fault("drift = ifoff < 1 then 2 else 3;", 1, 8);
        Check.fault("drift = if 1 < 2 then 3 elseif;", 1, 24);
        Check.fault("drift = dayoff;", 1, 8);
        Check.sound("letter days 1;".replace("days", "dayss"));
        Check.fault("letter days 1;", 1, 7);
        Check.fault("drift = days;", 1, 8);
        Check.sound("drift = day;");
        Check.fault("day 1;", 1, 0);
    }

    private static void names() {
        Doc.terms(4, "NAMES (letters a .. z, 8 at most, none of the words in quotes)");
        for (int length = 1; length <= 10; length++) {
            for (String letter : List.of("a", "q", "z")) {
                Check.fault("letter " + letter.repeat(length) + " 1;", length <= 8 ? 0 : 1, length <= 8 ? NONE : 7);
                Check.fault("heir " + letter.repeat(length) + " 1 1;", length <= 8 ? 0 : 1, length <= 8 ? NONE : 5);
            }
        }
        for (int b = 0; b <= 255; b++) {
            Check.fault("letter " + (char) b + " 1;", isSmall(b) ? 0 : 1, isSmall(b) ? NONE : isBlank(b) ? 9 : 7);
            boolean fits = isSmall(b) || isBlank(b);
            Check.fault("letter q" + (char) b + " 1;", fits ? 0 : 1, fits ? NONE : isDigit(b) ? 10 : 8);
        }
        for (String word : WORDS.split(" ")) {
            Check.fault("letter " + word + " 1;", 1, 7);
            Check.fault("heir " + word + " 1 1;", 1, 5);
            Check.fault("master " + word + " = 1;", 1, 7);
            Check.fault("learn " + word + " = 1;", 1, 6);
            Check.sound("letter " + word + "q 1;");
            Check.sound("letter q" + word + " 1;");
            Check.sound("letter " + word.substring(0, word.length() - 1) + "q 1;");
        }
        // words of the document that no text has in quotes
        for (String word : List.of("text", "tell", "law", "part", "unit", "var", "name", "int", "shape", "skill", "tremor")) {
            Check.sound("letter " + word + " 1;");
        }
    }

    private static void ints() {
        Doc.terms(4, "INTS (1 to 4 digits)");
        for (int digits = 1; digits <= 10; digits++) {
            for (String digit : List.of("0", "9")) {
                Check.fault("limit " + digit.repeat(digits) + ";", digits <= 4 ? 0 : 1, digits <= 4 ? NONE : 6);
                Check.fault("drift = " + digit.repeat(digits) + ";", digits <= 4 ? 0 : 1, digits <= 4 ? NONE : 8);
            }
        }
        Check.fault("limit ;", 1, 6);
        for (int b = 0; b <= 255; b++) {
            Check.fault("limit " + (char) b + ";", isDigit(b) ? 0 : 1, isDigit(b) ? NONE : isBlank(b) ? 7 : 6);
        }
        for (int number : new int[] {0, 1, 9, 10, 99, 100, 999, 1000, 9998, 9999}) {
            Check.due("limit " + number, Check.told("limit " + number + ";").count(7), number);
        }
        Check.due("limit 0010", Check.told("limit 0010;").count(7), 10);
        Check.due("limit 0000", Check.told("limit 0000;").count(7), 0);
    }

    private static void signs() {
        Doc.terms(4, "SIGNS ; = + - * / < ( ) .");
        for (int b = 0; b <= 255; b++) {
            boolean fits = b == '+' || b == '-' || b == '*' || b == '/' || isDigit(b);
            int place = isBlank(b) || b == ';' ? 13 : 12;
            Check.fault("master m = 1" + (char) b + "2;", fits ? 0 : 1, fits ? NONE : place);
        }
        for (String text : List.of("days 1", "master m ", "drift = if 1 ", "drift = ", "drift = (1")) {
            for (String sign : SIGNS.split(" ")) {
                // one of them goes on from there: the text's end is what is missing, if anything is
                boolean fits = text.equals("days 1") && sign.equals(";") || text.equals("master m ") && sign.equals("=")
                    || text.equals("drift = if 1 ") && "+-*/<".contains(sign) || text.equals("drift = ") && sign.equals("(")
                    || text.equals("drift = (1") && "+-*/)".contains(sign);
                HandHeirs x = new HandHeirs();
                Check.readText(x, text + sign);
                Check.due("refused at " + text + sign, x.place() == text.length(), !fits);
            }
        }
    }

    private static void noTokens() {
        Doc.terms(4, "A longer one, all else, is no TOKEN.");
        Check.fault("letter abcdefghi 1;", 1, 7);
        Check.fault("letter abcdefgh i 1;", 1, 16);
        Check.fault("letter " + "a".repeat(300) + " 1;", 1, 7);
        Check.fault("limit 12345;", 1, 6);
        Check.fault("limit 1234 5;", 1, 11);
        Check.fault("limit 00000;", 1, 6);
        Check.fault("limit " + "1".repeat(300) + ";", 1, 6);
        Check.fault("letterletter a 1;", 1, 0);
        for (int b : new int[] {0, 1, 8, 11, 12, 14, 31, '!', '"', '#', '$', '%', '&', '\'', ',', '.', ':', '>', '?', '@', 'A', 'Z', '[',
            '\\', ']', '^', '_', '`', '{', '|', '}', '~', 127, 128, 160, 254, 255}) {
            Check.fault("" + (char) b, 1, 0);
            Check.fault("days 1;" + (char) b, 1, 7);
            Check.fault("days 1;\n" + (char) b + " days 2;", 1, 8);
            Check.fault("drift = off" + (char) b + ";", 1, 11);
        }
    }

    /** What may stand behind some TOKENS: each TOKEN that may not is SYNTAX at its place, each that may is not. */
    private static void goesOn(String ahead, String row) {
        String all = WORDS + " " + SIGNS + " q 1";
        String text = ahead.isEmpty() ? "" : ahead + " ";
        for (String token : all.split(" ")) {
            HandHeirs x = new HandHeirs();
            int fault = Check.readText(x, text + token + " ");
            if (isIn(row, token)) {
                Check.due("place of: " + text + token, x.place() == text.length() && fault == 1, false);
            } else {
                Check.due("read of: " + text + token, fault, 1);
                Check.due("place of: " + text + token, x.place(), text.length());
                // what comes behind the first FAULT does not count, whatever it is
                Check.fault(text + token + " ; days 1 ; letter letter ; ? ;", 1, text.length());
            }
        }
        HandHeirs x = new HandHeirs();
        boolean ends = isIn(row, "END");
        Check.due("read of: " + ahead, Check.readText(x, text), ends ? 0 : 1);
        Check.due("place of: " + ahead, x.place(), ends ? NONE : text.length());
    }

    private static void grammar() {
        Doc.terms(4, "text: {TELL}.");
        goesOn("", TELLS + " END");
        goesOn("days 1 ;", TELLS + " END");
        goesOn("days 1 ; letter a 1 ;", TELLS + " END");
        Doc.terms(4, "TELL: 'letter' NAME INT ';' | 'heir' NAME INT INT {INT} ';' | 'master' NAME LAW ';' | 'learn' NAME LAW ';' | "
            + "'drift' LAW ';' | 'days' INT ';' | 'limit' INT ';' | 'seed' INT ';'.");
        goesOn("letter", "q");
        goesOn("letter a", "1");
        goesOn("letter a 1", ";");
        goesOn("letter a 1 ;", TELLS + " END");
        goesOn("heir", "q");
        goesOn("heir a", "1");
        goesOn("heir a 1", "1");
        goesOn("heir a 1 2", "1 ;");
        goesOn("heir a 1 2 3", "1 ;");
        goesOn("heir a 1 2 3 4 5 6 7", "1 ;");
        goesOn("heir a 1 2 ;", TELLS + " END");
        goesOn("heir a 1 2 3 ;", TELLS + " END");
        for (String name : List.of("master", "learn")) {
            goesOn(name, "q");
            goesOn(name + " a", "=");
        }
        goesOn("master a = 1 ;", TELLS + " END");
        goesOn("heir a 1 2 ; learn a = 1 ;", TELLS + " END");
        goesOn("drift", "=");
        goesOn("drift = 1 ;", TELLS + " END");
        for (String number : List.of("days", "limit", "seed")) {
            goesOn(number, "1");
            goesOn(number + " 1", ";");
            goesOn(number + " 1 ;", TELLS + " END");
        }
        for (String tell : List.of("drift", "master a", "heir a 1 2 ; learn a")) {
            law(tell + " =");
        }
    }

    private static void law(String start) {
        Doc.terms(4, "LAW: '=' {'if' E '<' E 'then' E 'else'} E.");
        String row = "";
        for (int ifs = 0; ifs <= 3; ifs++) {
            goesOn(start + row, "if " + UNIT);
            goesOn(start + row + " if", UNIT);
            goesOn(start + row + " if 1", "+ - * / <");
            goesOn(start + row + " if 1 <", UNIT);
            goesOn(start + row + " if 1 < 2", "+ - * / then");
            goesOn(start + row + " if 1 < 2 then", UNIT);
            goesOn(start + row + " if 1 < 2 then 3", "+ - * / else");
            goesOn(start + row + " 1", "+ - * / ;");
            row += " if 1 < 2 then 3 else";
        }
        goesOn(start + row, "if " + UNIT);
        Doc.terms(4, "E: PART {('+' | '-') PART}. PART: UNIT {('*' | '/') UNIT}.");
        for (String sign : List.of("+", "-", "*", "/")) {
            goesOn(start + " 1 " + sign, UNIT);
            goesOn(start + " 1 " + sign + " off", "+ - * / ;");
            goesOn(start + " 1 " + sign + " 2 " + sign, UNIT);
            goesOn(start + " if 1 " + sign + " 2", "+ - * / <");
        }
        Doc.terms(4, "UNIT: INT | VAR | '(' E ')'. VAR: 'off' | 'letter' | 'year' | 'worn' | 'own' | 'hand' | 'day'.");
        for (String unit : List.of("9999", "off", "letter", "year", "worn", "own", "hand", "day", "( 1 )", "( off + 1 )")) {
            goesOn(start + " " + unit, "+ - * / ;");
            goesOn(start + " ( " + unit, "+ - * / )");
        }
        goesOn(start + " (", UNIT);
        goesOn(start + " ( (", UNIT);
        goesOn(start + " ( ( 1 )", "+ - * / )");
        goesOn(start + " ( 1 +", UNIT);
    }

    private static String letters(int count) {
        StringBuilder text = new StringBuilder();
        for (int i = 0; i < count; i++) {
            text.append("letter l").append((char) ('a' + i)).append(' ').append(10 + i).append("; ");
        }
        return text.toString();
    }

    private static String heirs(int count) {
        StringBuilder text = new StringBuilder();
        for (int i = 0; i < count; i++) {
            text.append("heir h").append((char) ('a' + i)).append(' ').append(20 + i).append(" 0; ");
        }
        return text.toString();
    }

    private static String masters(int count) {
        StringBuilder text = new StringBuilder();
        for (int i = 0; i < count; i++) {
            text.append("master m").append((char) ('a' + i)).append(" = ").append(30 + i).append("; ");
        }
        return text.toString();
    }

    private static void letters() {
        Doc.terms(6, "LETTERS, 6 at most (a NAME, a SHAPE 0 .. 99 in the dead man's HAND)");
        for (int count = 0; count <= 6; count++) {
            HandHeirs x = Check.told(letters(count));
            Check.due("letters", x.count(0), count);
            for (int letter = 0; letter <= 6; letter++) {
                Check.due("hand(" + letter + ") of " + count, x.hand(letter), letter < count ? 10 + letter : NONE);
            }
        }
        Check.fault(letters(7), 2, letters(6).length());
        for (int shape : new int[] {0, 1, 98, 99}) {
            Check.due("hand", Check.told("letter a " + shape + ";").hand(0), shape);
        }
        for (int shape : new int[] {100, 101, 999, 1000, 9999}) {
            Check.fault("letter a " + shape + ";", 5, 9);
        }
        Check.sound("letter a 0099;");
        Check.fault("letter a 0100;", 5, 9);
    }

    private static void heirs() {
        Doc.terms(7, "HEIRS, 6 at most (a NAME, SKILL 0 .. 99, TREMOR 0 .. 9, SHAPES 0 .. 99 of LETTERS one by one, 6 at most;");
        for (int count = 0; count <= 6; count++) {
            HandHeirs x = Check.told(heirs(count));
            Check.due("heirs", x.count(1), count);
            for (int heir = 0; heir <= 6; heir++) {
                Check.due("skill of " + heir, x.heir(heir, 0), heir < count ? 20 + heir : NONE);
            }
        }
        Check.fault(heirs(7), 2, heirs(6).length());
        for (int skill : new int[] {0, 1, 98, 99}) {
            Check.due("skill", Check.told("heir a " + skill + " 0;").heir(0, 0), skill);
        }
        Check.fault("heir a 100 0;", 5, 7);
        Check.fault("heir a 9999 0;", 5, 7);
        for (int tremor : new int[] {0, 1, 8, 9}) {
            Check.due("tremor", Check.told("heir a 0 " + tremor + ";").heir(0, 1), tremor);
        }
        Check.fault("heir a 0 10;", 5, 9);
        Check.fault("heir a 0 9999;", 5, 9);
        for (int at = 0; at < 6; at++) {
            String ahead = "heir a 0 0" + " 5".repeat(at) + " ";
            for (int shape : new int[] {0, 1, 98, 99}) {
                Check.due("shape of letter " + at, Check.told(letters(6) + ahead + shape + ";").shape(0, at, 0), shape);
            }
            Check.fault(ahead + "100;", 5, ahead.length());
            Check.fault(ahead + "9999;", 5, ahead.length());
        }
        HandHeirs x = Check.told("heir a 0 0 1 2 3 4 5 6; heir b 0 0 7 8 9 10 11 12; " + letters(6));
        for (int i = 0; i < 12; i++) {
            Check.due("one by one", x.shape(i / 6, i % 6, 0), i + 1);
        }
        Check.fault("heir a 0 0 1 2 3 4 5 6 7;", 2, 23);
        Doc.terms(7, "those not told: 50)");
        for (int told = 0; told <= 6; told++) {
            x = Check.told(letters(6) + "heir a 0 0" + " 7".repeat(told) + ";");
            for (int letter = 0; letter < 6; letter++) {
                Check.due("shape of letter " + letter + " with " + told + " told", x.shape(0, letter, 0), letter < told ? 7 : 50);
            }
        }
    }

    private static void masters() {
        Doc.terms(9, "MASTERS, 3 at most (a NAME, a LAW), numbered each from 0 on as they stand.");
        for (int count = 0; count <= 3; count++) {
            HandHeirs x = Check.told(letters(1) + heirs(1) + masters(count));
            Check.due("masters", x.count(2), count);
            for (int master = 0; master <= 3; master++) {
                Check.due("unlike to " + master, x.unlike(0, master), master < count ? 30 + master : NONE);
            }
        }
        Check.fault(masters(4), 2, masters(3).length());
        HandHeirs x = Check.told("master z = 5; heir y 1 0; letter x 9; master b = 6; letter a 8; heir d 2 0; learn y = 1; learn d = 0;"
            + "letter c 7; heir e 3 0; master f = 7;");
        for (int i = 0; i < 3; i++) {
            Check.due("hand", x.hand(i), 9 - i);
            Check.due("skill", x.heir(i, 0), 1 + i);
            Check.due("unlike", x.unlike(0, i), 3 * (5 + i));
        }
        Check.due("learn of the first heir", x.heir(0, 4), 1);
        Check.due("learn of the second heir", x.heir(1, 4), 0);
    }

    private static void learns() {
        Doc.terms(8, "LEARN of an HEIR: a LAW (none: the LETTER that is most OFF, of alike ones the first).");
        String world = "letter a 50; letter b 50; letter c 50; ";
        Check.due("by law", Check.told(world + "heir x 1 0 0 50 50; learn x = 2;").heir(0, 4), 2);
        Check.due("none, the first", Check.told(world + "heir x 1 0 49 50 50;").heir(0, 4), 0);
        Check.due("none, in the middle", Check.told(world + "heir x 1 0 49 48 49;").heir(0, 4), 1);
        Check.due("none, the last", Check.told(world + "heir x 1 0 49 49 52;").heir(0, 4), 2);
        Check.due("none, below and above alike", Check.told(world + "heir x 1 0 50 47 53;").heir(0, 4), 1);
        Check.due("none, all alike", Check.told(world + "heir x 1 0 51 49 51;").heir(0, 4), 0);
        Check.due("none, nothing off", Check.told(world + "heir x 1 0;").heir(0, 4), 0);
        Check.due("of the other heir only", Check.told(world + "heir x 1 0 50 0; heir y 1 0; learn y = 2;").heir(0, 4), 1);
        // as he has it: trembling is not looked at
        Check.due("none, with tremor", Check.told(world + "heir x 1 9 49 48 49;").heir(0, 4), 1);
    }

    private static void drifts() {
        Doc.terms(13, "DRIFT: a LAW (0).");
        String world = "letter a 50; heir x 0 0 50; master m = 0;";
        HandHeirs x = Check.told(world);
        x.years(9);
        Check.due("none", x.hand(0), 50);
        x = Check.told(world + "drift = 1;");
        x.years(9);
        Check.due("a law", x.hand(0), 59);
        x = Check.told(world + "drift = 0;");
        x.years(9);
        Check.due("0", x.hand(0), 50);
    }

    private static void days() {
        Doc.terms(13, "DAYS of a year 0 .. 9 (3).");
        for (int days = 0; days <= 9; days++) {
            HandHeirs x = Check.told("letter a 50; heir x 1 0 0; days " + days + ";");
            Check.due("days", x.count(6), days);
            x.years(1);
            Check.due("lessons in a year of " + days, x.shape(0, 0, 0), days);
        }
        HandHeirs x = Check.told("letter a 50; heir x 1 0 0;");
        Check.due("none", x.count(6), 3);
        x.years(1);
        Check.due("lessons then", x.shape(0, 0, 0), 3);
        Check.fault("days 10;", 5, 5);
        Check.fault("days 11;", 5, 5);
        Check.fault("days 9999;", 5, 5);
        Check.sound("days 0009;");
    }

    /** A sum of 12 times 833 and some more, by one heir, four letters and three masters. */
    private static int judgedBySum(int more, String limit) {
        return Check.told(letters(4) + "heir x 0 0; master m = if letter < 1 then 833 + " + more + " else 833; master n = 833;"
            + "master o = 833; " + limit).judge();
    }

    private static void limits() {
        Doc.terms(11, "LIMIT 0 .. 9999 (9999).");
        String one = "letter a 50; heir x 0 0 50; master m = ";
        Check.due("limit 0, sum 0", Check.told(one + "0; limit 0;").judge(), 0);
        Check.due("limit 0, sum 1", Check.told(one + "1; limit 0;").judge(), -2);
        Check.due("limit 1, sum 1", Check.told(one + "1; limit 1;").judge(), 0);
        for (String limit : List.of("", "limit 9999;")) {
            Check.due("limit", Check.told(limit).count(7), 9999);
            Check.due("sum 9998 " + limit, judgedBySum(2, limit), 0);
            Check.due("sum 9999 " + limit, judgedBySum(3, limit), 0);
            Check.due("sum 10000 " + limit, judgedBySum(4, limit), -2);
        }
        Check.due("sum 9998, limit 9998", judgedBySum(2, "limit 9998;"), 0);
        Check.due("sum 9999, limit 9998", judgedBySum(3, "limit 9998;"), -2);
        Check.fault("limit 10000;", 1, 6);
    }

    private static void seeds() {
        Doc.terms(7, "SEED 0 .. 9999 (0).");
        for (int seed : new int[] {0, 1, 2, 27, 9998, 9999}) {
            HandHeirs x = Check.told(letters(6) + "heir x 0 9; seed " + seed + ";");
            for (int letter = 0; letter < 6; letter++) {
                Check.due("written with seed " + seed, x.shape(0, letter, 1), 50 + Model.lot(19, seed, letter) - 9);
            }
        }
        HandHeirs none = Check.told(letters(6) + "heir x 0 9;");
        HandHeirs zero = Check.told(letters(6) + "heir x 0 9; seed 0;");
        boolean differs = false;
        HandHeirs one = Check.told(letters(6) + "heir x 0 9; seed 1;");
        for (int letter = 0; letter < 6; letter++) {
            Check.due("none is 0", none.shape(0, letter, 1), zero.shape(0, letter, 1));
            differs |= one.shape(0, letter, 1) != zero.shape(0, letter, 1);
        }
        Check.due("another seed, another hand", differs, true);
        Check.fault("seed 10000;", 1, 5);
    }

    private static void ofSeveral() {
        Doc.terms(4, "Of several the last one.");
        String world = "letter a 50; letter b 50; heir x 1 9 0 0; heir y 1 0 0 0; master m = 0; ";
        HandHeirs x = Check.told(world + "learn x = 0; learn y = 0; learn x = 1; drift = 5; drift = 2; days 9; days 4; limit 7; limit 8;"
            + "seed 5; seed 6;");
        Check.due("days", x.count(6), 4);
        Check.due("limit", x.count(7), 8);
        Check.due("seed", x.shape(0, 0, 1), Math.max(0, Model.lot(19, 6, 0) - 9));
        Check.due("learn of x", x.heir(0, 4), 1);
        Check.due("learn of y", x.heir(1, 4), 0);
        x.years(1);
        Check.due("drift", x.hand(0), 52);
        x = Check.told("days 4; days 9; limit 8; limit 7; days 0; limit 9999;");
        Check.due("days", x.count(6), 0);
        Check.due("limit", x.count(7), 9999);
        Check.fault("days 10; days 9;", 5, 5);
    }

    private static void firstByPlace() {
        Doc.terms(4, "FAULTS of a text, the first by its place (a byte; the text's end: its length), of one place the least:");
        Check.fault("x y", 1, 0);
        Check.fault("\t\n x y", 1, 3);
        Check.fault("days 1; x y", 1, 8);
        Check.fault("days", 1, 4);
        Check.fault("days ", 1, 5);
        Check.fault("days\t\n\r ", 1, 8);
        Check.fault("drift = (((((((1; x", 2, 14);
        Check.fault("x; drift = (((((((1", 1, 0);
        Check.fault(letters(6) + "letter", 2, letters(6).length());
        Check.fault(letters(6) + "x letter", 1, letters(6).length());
        Check.fault(masters(3) + "  master letter", 2, masters(3).length() + 2);
        // the 401st TOKEN is none that fits, or is no TOKEN, or is the seventh letter
        String ahead = "days1;".repeat(132) + "drift=0;";
        Check.fault(ahead + "q", 1, ahead.length());
        Check.fault(ahead + "?", 1, ahead.length());
        Check.fault(ahead + "abcdefghi", 1, ahead.length());
        Check.fault(ahead + "days", 2, ahead.length());
        Check.fault(ahead + " days ?", 2, ahead.length() + 1);
        Check.fault(ahead + "  ", 0, NONE);
        Check.fault("letter a 100; letter a 1;", 5, 9);
        Check.fault("letter a 1; letter a 100;", 3, 19);
        Check.fault("learn a = 1; letter b 100;", 4, 6);
        Check.fault("letter b 100; learn a = 1;", 5, 9);
        Check.fault("letter b 1; letter b 1; learn a = 1;", 3, 19);
        Check.fault("letter b 1; learn a = 1; letter b 1;", 4, 18);
        Check.fault("heir a 100 10 100;", 5, 7);
        Check.fault("heir a 99 10 100;", 5, 10);
        Check.fault("heir a 99 9 100;", 5, 12);
    }

    private static void syntax() {
        Doc.terms(4, "1 SYNTAX: a TOKEN, or what is none, with which no text goes on.");
        Check.fault("letter a 1 letter b 1;", 1, 11);
        Check.fault("letter a 1;; letter b 1;", 1, 11);
        Check.fault("letter a 1; $", 1, 12);
        Check.fault("letter a 1; letter $", 1, 19);
        Check.fault("letter a 1; letter b 1", 1, 22);
        Check.fault("heir a 1 2 3 4 5 6 7 8 +", 1, 23);
        Check.fault("master m = off off;", 1, 15);
        Check.fault("master m = 1--1;", 1, 13);
        Check.fault("master m = if 1 < 2 then 3 else;", 1, 31);
        Check.fault("master m = 1 if 2 < 3 then 4 else 5;", 1, 13);
        Check.sound("master m = if 1 < 2 then 3 else 4;");
    }

    /** A sound text of so many TOKENS: days has three, drift four. */
    private static String tokens(int count) {
        StringBuilder text = new StringBuilder();
        int left = count;
        while (left % 3 != 0) {
            text.append("drift=0;");
            left -= 4;
        }
        return text.append("days1;".repeat(left / 3)).toString();
    }

    private static void roomOfTokens() {
        Doc.terms(4, "2 ROOM: a 401st TOKEN;");
        Check.sound(tokens(398));
        Check.sound(tokens(399));
        Check.sound(tokens(400));
        Check.fault(tokens(401), 2, tokens(401).length() - 1);
        Check.fault(tokens(402), 2, tokens(402).length() - 2);
        Check.fault(tokens(403), 2, tokens(403).length() - 6);
        Check.fault(tokens(400) + "days1;", 2, tokens(400).length());
        Check.fault(tokens(399) + "days1;", 2, tokens(399).length() + 4);
        Check.fault(tokens(398) + "days1;", 2, tokens(398).length() + 5);
        Check.sound(tokens(397) + "days1;");
        Check.fault(tokens(399) + "days", 1, tokens(399).length() + 4);
        Check.sound("drift=" + "1+".repeat(198) + "1;");
        Check.fault("drift=" + "1+".repeat(198) + "(1);", 2, 6 + 2 * 198 + 2);
        Check.fault("drift=" + "1+".repeat(199) + "1;", 2, 6 + 2 * 199);
        Check.fault("days1;" + "x".repeat(8) + tokens(401), 1, 6);
        // each TOKEN of each TELL as the 401st: ROOM if it fits there, SYNTAX if another one stands there
        for (String tell : List.of("letter a 1 ;", "heir a 1 2 3 4 5 6 7 8 ;", "master a = off + 1 * 2 ;", "heir b 1 2 ; learn b = ( off ) ;",
            "drift = if 1 < 2 then 3 else 4 - 5 / 6 ;", "days 1 ;", "limit 1 ;", "seed 1 ;", "heir a 100 10 100 ;")) {
            String[] row = tell.split(" ");
            for (int at = 0; at < row.length; at++) {
                String ahead = tokens(400 - at) + String.join(" ", Arrays.copyOf(row, at)) + " ";
                Check.fault(ahead + row[at], 2, ahead.length());
                Check.fault(ahead + row[at] + " ? ;", 2, ahead.length());
                Check.fault(ahead + "then", row[at].equals("then") ? 2 : 1, ahead.length());
            }
        }
    }

    private static void roomOfTells() {
        Doc.terms(4, "a 7th letter, heir, a 4th master (at its first TOKEN),");
        Check.sound(letters(6) + heirs(6) + masters(3));
        String all = letters(6) + heirs(6) + masters(3);
        for (String tell : List.of("letter", "heir", "master")) {
            Check.fault(all + tell, 2, all.length());
            Check.fault(all + "  " + tell + " ?", 2, all.length() + 2);
            Check.fault(all + tell + " " + tell, 2, all.length());
        }
        Check.fault(all + "letter zz 1;", 2, all.length());
        Check.fault(all + "heir zz 1 1;", 2, all.length());
        Check.fault(all + "master zz = 1;", 2, all.length());
        Check.sound(all + "learn ha = letter;");
        // each kind has room of its own
        Check.fault(letters(5) + heirs(7), 2, letters(5).length() + heirs(6).length());
        Check.fault(heirs(5) + letters(7), 2, heirs(5).length() + letters(6).length());
        Check.fault(letters(2) + heirs(2) + masters(4), 2, letters(2).length() + heirs(2).length() + masters(3).length());
        Check.sound(letters(6) + "drift = letter + letter; " + masters(2) + "master mm = letter * letter;");
    }

    private static void roomOfShapes() {
        Doc.terms(4, "a 7th SHAPE of an heir (at it);");
        String six = "heir a 1 1 1 1 1 1 1 1";
        Check.sound(six + ";");
        Check.fault(six + " 1;", 2, six.length() + 1);
        Check.fault(six + "   9999", 2, six.length() + 3);
        Check.fault(six + " 1 1 1;", 2, six.length() + 1);
        Check.fault(six + " 12345;", 1, six.length() + 1);
        Check.fault(six + " x;", 1, six.length() + 1);
        Check.fault(six + "; heir b 1 1 1 1 1 1 1 1 2;", 2, 2 * six.length() + 3);
        Check.sound(six + "; heir b 1 1 1 1 1 1 1 1;");
    }

    private static void roomOfIfs() {
        Doc.terms(4, "a 5th if of a LAW (at it);");
        String one = "if 1 < 2 then 3 else ";
        for (String tell : List.of("drift = ", "master m = ", "heir h 1 1; learn h = ")) {
            for (int ifs = 0; ifs <= 4; ifs++) {
                Check.sound(tell + one.repeat(ifs) + "5;");
            }
            Check.fault(tell + one.repeat(5) + "5;", 2, tell.length() + 4 * one.length());
            Check.fault(tell + one.repeat(6) + "5;", 2, tell.length() + 4 * one.length());
            Check.fault(tell + one.repeat(4) + "  if", 2, tell.length() + 4 * one.length() + 2);
            Check.fault(tell + one.repeat(4) + "if ?", 2, tell.length() + 4 * one.length());
        }
        Check.sound("drift = " + one.repeat(4) + "5; master m = " + one.repeat(4) + "5; master n = " + one.repeat(4) + "5;");
        String ahead = "drift = " + one.repeat(4) + "5; drift = " + one.repeat(4);
        Check.fault(ahead + "if", 2, ahead.length());
    }

    private static void roomOfBrackets() {
        Doc.terms(4, "a 7th ( within one another (at it).");
        for (String ahead : List.of("drift = ", "drift = 1 + 2 * ", "drift = (1) + ", "master m = if ", "master m = if 1 < ",
            "master m = if 1 < 2 then ", "master m = if 1 < 2 then 3 else ", "heir h 1 1; learn h = ", "drift = ((((((1)))))) - ")) {
            String behind = ahead.endsWith("if ") ? " < 2 then 3 else 4;" : ahead.endsWith("1 < ") ? " then 3 else 4;"
                : ahead.endsWith("then ") ? " else 4;" : ";";
            for (int depth = 0; depth <= 6; depth++) {
                Check.sound(ahead + "(".repeat(depth) + "1" + ")".repeat(depth) + behind);
            }
            Check.fault(ahead + "(((((((1)))))))" + behind, 2, ahead.length() + 6);
            Check.fault(ahead + "((((((((1))))))))" + behind, 2, ahead.length() + 6);
            Check.fault(ahead + "((((((  (", 2, ahead.length() + 8);
            Check.fault(ahead + "((((((1 + (", 2, ahead.length() + 10);
        }
        Check.sound("drift = (1) + (2) * (3) - (4) / (5) + (6) + (7) + (8);");
        Check.sound("drift = ((((((1) + (2)) * (3)) - (4)) / (5)) + (6));");
        Check.fault("drift = (((((1) + ((2 + (3", 2, 24);
    }

    private static void likewise() {
        Doc.terms(4, "If there is none, likewise:");
        for (String ahead : List.of("letter a 1; letter a 1; ", "learn a = 1; ", "letter a 100; ")) {
            Check.fault(ahead + "x", 1, ahead.length());
            Check.fault(ahead + "days 1", 1, ahead.length() + 6);
            Check.fault(ahead + "drift = (((((((1)))))));", 2, ahead.length() + 14);
            Check.fault(ahead + "heir b 1 1 1 1 1 1 1 1 1;", 2, ahead.length() + 23);
            Check.fault(ahead + "days1;".repeat(140), 2, ahead.length() + 6 * ((400 - tokenCount(ahead)) / 3)
                + new int[] {0, 4, 5}[(400 - tokenCount(ahead)) % 3]);
            Check.fault(ahead + "days 1;", ahead.startsWith("learn") ? 4 : ahead.contains("100") ? 5 : 3,
                ahead.startsWith("learn") ? 6 : ahead.contains("100") ? 9 : 19);
        }
    }

    /** Of texts whose TOKENS have blanks between, but for the semicolons. */
    private static int tokenCount(String text) {
        return text.replace(";", " ;").trim().split(" +").length;
    }

    private static void twice() {
        Doc.terms(4, "3 TWICE: a NAME told already (LETTERS, HEIRS and MASTERS together).");
        List<String> kinds = List.of("letter q 1; ", "heir q 1 1; ", "master q = 1; ");
        for (String first : kinds) {
            for (String second : kinds) {
                Check.fault(first + second, 3, first.length() + second.indexOf('q'));
                Check.sound(first + second.replace("q", "qq"));
                Check.fault(first + second.replace("q", "qq") + second, 3, first.length() + second.length() + 1 + second.indexOf('q'));
            }
        }
        Check.fault("letter qqqqqqqq 1; heir qqqqqqqq 1 1;", 3, 24);
        Check.sound("letter qqqqqqqq 1; heir qqqqqqqr 1 1; master qqqqqqq = 1; letter rqqqqqqq 1;");
        Check.sound("letter a 1; heir b 1 1; learn b = 1; learn b = 1;");
        HandHeirs x = Check.told("letter a 1; heir b 1 1; master c = 1;");
        Check.due("told in the text ahead", Check.readText(x, "letter c 1; heir a 1 1; master b = 1;"), 0);
    }

    private static void noName() {
        Doc.terms(4, "4 NAME: no such HEIR told ahead (learn).");
        Check.sound("heir a 1 1; learn a = 1;");
        Check.fault("learn a = 1;", 4, 6);
        Check.fault("learn a = 1; heir a 1 1;", 4, 6);
        Check.fault("heir a 1 1; learn b = 1; heir b 1 1;", 4, 18);
        Check.sound("heir a 1 1; heir b 1 1; learn b = 1; learn a = 1;");
        Check.fault("heir a 1 1; learn aa = 1;", 4, 18);
        Check.fault("heir aa 1 1; learn a = 1;", 4, 19);
        Check.fault("letter a 1; learn a = 1;", 4, 18);
        Check.fault("master a = 1; learn   a = 1;", 4, 22);
        for (int count = 0; count <= 6; count++) {
            String ahead = letters(6) + heirs(count) + masters(3);
            for (String other : List.of("la", "lf", "ma", "mc", "h", "hz")) {
                Check.fault(ahead + "learn " + other + " = 1;", 4, ahead.length() + 6);
            }
            for (char c = 'a'; c <= 'g'; c++) {
                boolean told = c < 'a' + count;
                Check.fault(ahead + "learn h" + c + " = 1;", told ? 0 : 4, told ? NONE : ahead.length() + 6);
            }
        }
        HandHeirs x = Check.told("heir a 1 1; learn a = 1;");
        Check.due("told in the text ahead", Check.readText(x, "learn a = 1;"), 4);
    }

    private static void wrong() {
        Doc.terms(4, "5 WRONG (at the INT): a number not as told above.");
        Check.sound("letter a 99; heir b 99 9 99 99 99 99 99 99; days 9; limit 9999; seed 9999; drift = 9999; master m = 9999;");
        Check.fault("letter   a   100;", 5, 13);
        Check.fault("heir   b  100 9;", 5, 10);
        Check.fault("heir b 99  10;", 5, 11);
        Check.fault("heir b 99 9  100;", 5, 13);
        Check.fault("heir b 99 9 99 99 99 99 99   100;", 5, 29);
        Check.fault("days   10;", 5, 7);
        Check.fault("letter a 0100;", 5, 9);
        Check.fault("days 0010;", 5, 5);
        Check.sound("letter a 0000; days 0000; heir b 0000 0000 0000;");
    }

    private static void aFaultChangesNothing() {
        Doc.terms(4, "A text with a FAULT changes nothing but the tape;");
        String other = "letter s 9; letter t 9; letter u 9; heir v 9 9 9; master w = 9; drift = 9; days 9; limit 9; seed 9; learn v = 9; ";
        String[] texts = {other + "x", other + "drift = (((((((", other + "letter w 1;", other + "learn w = 1;", other + "days 10;"};
        for (int fault = 1; fault <= 5; fault++) {
            HandHeirs x = Seen.busy();
            x.back(20);
            Check.due("fault", Check.readText(x, texts[fault - 1]), fault);
            Check.due("the tape", x.count(9), 0);
            HandHeirs due = Seen.busy();
            due.back(20);
            String place = ", place [-0-9]+";
            Check.due("all else", Seen.whole(x).replaceAll(place, ""), Seen.whole(due).replaceAll(place, ""));
        }
    }

    private static void inPlaceOfTheOneAhead() {
        Doc.terms(4, "else it is in place of the one ahead: year 0, SHAPES as told, the estate nobody's, no eyes worn, nothing can be undone, "
            + "nothing is TOLD, SLOTS hold nothing.");
        HandHeirs x = Seen.busy();
        Check.due("somebody had it", x.count(4) >= 0, true);
        x.back(20);
        Check.due("read", Check.readText(x, Seen.BUSY), 0);
        HandHeirs fresh = Check.told(Seen.BUSY);
        Check.due("as if it were the first", Seen.whole(x), Seen.whole(fresh));
        for (int what : new int[] {3, 5, 8, 9, 10, 11, 12}) {
            HandHeirs y = Seen.busy();
            y.back(20);
            y.read();
            Check.due("count(" + what + ") after an empty text", y.count(what), 0);
        }
        HandHeirs y = Seen.busy();
        y.back(20);
        y.read();
        Check.due("nobody's", y.count(4), -2);
        Check.due("letters", y.count(0), 0);
        Check.due("undo", y.undo(), false);
        for (int slot = 0; slot < 3; slot++) {
            Check.due("restore(" + slot + ")", y.restore(slot), false);
        }
        Check.due("forget", y.forget(), 0);
        textAfterText();
    }

    /** Whatever was read before, sound or not, a text is read as if it were the first. */
    private static void textAfterText() {
        String full = letters(6) + "heir p 9 9 1 2 3 4 5 6; heir q 8 8 6 5 4 3 2 1; heir r 7 7 7; master s = off; master t = own; master u = year;"
            + "learn p = 3; learn q = 4; learn r = 5; drift = 9; days 9; limit 5; seed 9999; ";
        String some = "letter v 50; letter w 50; heir x 1 9; heir y 1 0; heir z 1 0; master u = off + 2; ";
        String[] rows = {full, full + "?", full + full, full + "days 10;", "", some, "learn p = 1;",
            "drift = 3; letter a 50; heir b 0 0; master c = 0;", "drift = 3; drift"};
        HandHeirs x = new HandHeirs();
        for (int i = 0; i < rows.length; i++) {
            for (int j = 0; j < 2; j++) {
                Check.readText(x, rows[i]);
                x.years(2);
                x.plan(0, 12);
            }
            Check.due("read of some", Check.readText(x, some), 0);
            HandHeirs fresh = Check.told(some);
            Check.due("at first, after text " + i, Seen.now(x), Seen.now(fresh));
            Check.due("seed", x.shape(0, 0, 1), fresh.shape(0, 0, 1));
            Check.due("years", x.years(3), fresh.years(3));
            Check.due("later, after text " + i, Seen.now(x), Seen.now(fresh));
            // an object has but 512 calls
            x = i % 2 == 0 ? x : new HandHeirs();
        }
        x = new HandHeirs();
        String longest = "letter a 50; heir b 0 0; master m = " + "1+".repeat(190) + "1; ";
        for (int i = 0; i < 5; i++) {
            Check.due("read of a long law", Check.readText(x, longest + (i == 2 ? "?" : "")), i == 2 ? 1 : 0);
            Check.due("what it tells", x.unlike(0, 0), 191);
        }
        x = Check.told("letter a 50; heir x 0 0; heir y 0 0 0; master m = off; master n = own;");
        x.years(2);
        Check.due("the first had it", x.heir(0, 3), 2);
        Check.due("read", Check.readText(x, "letter a 50; heir x 0 0 9; heir y 0 0; master m = off;"), 0);
        Check.due("the first had it in no year of this text", x.heir(0, 3), 0);
        x.years(2);
        Check.due("the second had it", x.heir(1, 3), 2);
        Check.due("read", Check.readText(x, "heir x 0 0; heir y 0 0; master m = 1;"), 0);
        Check.due("nor did he in this", x.heir(1, 3), 0);
    }

    private static void promise1() {
        Doc.promise(1, "Nothing is told.");
        HandHeirs x = new HandHeirs();
        int[] due = {0, 0, 0, 0, -2, 0, 3, 9999, 0, 0, 0, 0, 0};
        for (int what = 0; what <= 12; what++) {
            Check.due("count(" + what + ")", x.count(what), due[what]);
        }
        Check.due("hand(0)", x.hand(0), NONE);
        Check.due("shape(0, 0, 0)", x.shape(0, 0, 0), NONE);
        Check.due("heir(0, 0)", x.heir(0, 0), NONE);
        Check.due("unlike(0, 0)", x.unlike(0, 0), NONE);
        Check.due("vote(0)", x.vote(0), NONE);
        Check.due("judge()", x.judge(), -2);
        Check.due("lesson(0, 0, 1)", x.lesson(0, 0, 1), NONE);
        Check.due("undo()", x.undo(), false);
        Check.due("book(0, NONE)", x.book(0, NONE), NONE);
        Check.due("plan(0, 0)", x.plan(0, 0), NONE);
        Check.due("planOf(0, 0, 0)", x.planOf(0, 0, 0), NONE);
        Check.due("needs(0)", x.needs(0), NONE);
        Check.due("swing(0)", x.swing(0), NONE);
        Check.due("chance(0, 1)", x.chance(0, 1), NONE);
        Check.due("without(0)", x.without(0), NONE);
        Check.due("bias(0, 1)", x.bias(0, 1), NONE);
        Check.due("bestLetter(0, 1, 0)", x.bestLetter(0, 1, 0), NONE);
        Check.due("reign(0)", x.reign(0), -2);
        Check.due("copied(0, 0)", x.copied(0, 0), NONE);
        Check.due("nobody()", x.nobody(), 1);
        Check.due("tell(0, 0)", x.tell(0, 0), NONE);
        Check.due("forget()", x.forget(), 0);
        Check.due("dated(0, 0, NONE)", x.dated(0, 0, NONE), 1);
        Check.due("restore(0)", x.restore(0), false);
        Check.due("place()", x.place(), NONE);
        Check.due("two objects are apart", twoObjects(), 1);
    }

    private static int twoObjects() {
        HandHeirs one = new HandHeirs();
        HandHeirs other = new HandHeirs();
        Check.readText(one, "letter a 5;");
        Check.feedText(other, "days 1;");
        Check.due("the other has none", other.count(0), 0);
        Check.due("tape of the one", one.count(9), 0);
        return one.count(0);
    }

    private static void promise2() {
        Doc.promise(2, "Twenty bytes, the highest of a first, come behind the tape: how many it has.");
        HandHeirs x = new HandHeirs();
        // "letter ab 7;days 4; "
        Check.due("feed", x.feed(0x6c657474, 0x65722061, 0x6220373b, 0x64617973, 0x20343b20), 20);
        Check.due("read", x.read(), 0);
        Check.due("hand", x.hand(0), 7);
        Check.due("days", x.count(6), 4);
        for (int at = 0; at < 20; at++) {
            int[] five = {0x20202020, 0x20202020, 0x20202020, 0x20202020, 0x20202020};
            five[at / 4] |= 0xff << (24 - 8 * (at % 4));
            Check.due("feed", x.feed(five[0], five[1], five[2], five[3], five[4]), 20);
            Check.due("feed behind", x.feed(-1, 0, Integer.MIN_VALUE, Integer.MAX_VALUE, 1), 40);
            Check.due("read", x.read(), 1);
            Check.due("byte " + at, x.place(), at);
        }
        Check.due("feed", x.feed(0x20202020, 0x20202020, 0x20202020, 0x20202020, 0x20202020), 20);
        Check.due("back", x.back(3), 17);
        Check.due("feed behind 17", x.feed(0x20202020, 0x20202020, 0x20202020, 0x20202020, 0x202020ff), 37);
        x.read();
        Check.due("the last byte", x.place(), 36);
        Doc.promise(2, "NONE, and nothing comes, if it would have more than 2,000.");
        for (int length : new int[] {1979, 1980, 1981, 1999, 2000}) {
            HandHeirs y = new HandHeirs();
            Check.feedText(y, " ".repeat(length - 7) + "days 7;");
            boolean fits = length <= 1980;
            Check.due("feed behind " + length, y.feed(-1, -1, -1, -1, -1), fits ? length + 20 : NONE);
            Check.due("bytes", y.count(9), fits ? length + 20 : length);
            Check.due("feed once more", y.feed(-1, -1, -1, -1, -1), NONE);
            Check.due("read", y.read(), fits ? 1 : 0);
            Check.due("place", y.place(), fits ? length : NONE);
            Check.due("days", y.count(6), fits ? 3 : 7);
        }
        HandHeirs y = new HandHeirs();
        for (int i = 1; i <= 100; i++) {
            Check.due("feed " + i, y.feed(1, 2, 3, 4, 5), 20 * i);
        }
        Check.due("feed 101", y.feed(1, 2, 3, 4, 5), NONE);
        Check.due("bytes", y.count(9), 2000);
    }

    private static void promise3() {
        Doc.promise(3, "The last n bytes of the tape go: how many it has.");
        HandHeirs x = new HandHeirs();
        Check.due("back(0) of nothing", x.back(0), 0);
        Check.feedText(x, "days 1;limit 5;seed 5;x");
        Check.due("back(0)", x.back(0), 23);
        Check.due("back(1)", x.back(1), 22);
        Check.due("back(7)", x.back(7), 15);
        Check.due("read of what is left", x.read(), 0);
        Check.due("limit", x.count(7), 5);
        Check.feedText(x, "x".repeat(23));
        Check.due("all but one", x.back(22), 1);
        Check.due("the last", x.back(1), 0);
        Check.feedText(x, "x".repeat(23));
        Check.due("all", x.back(23), 0);
        Check.due("read of nothing", x.read(), 0);
        Doc.promise(3, "NONE, and nothing goes, if it has not so many, or n is below 0.");
        Check.due("back(1) of nothing", x.back(1), NONE);
        Check.feedText(x, "days 1;limit 5;seed 5;x");
        for (int n : new int[] {24, 25, 2000, 2001, Integer.MAX_VALUE, -1, -2, -23, Integer.MIN_VALUE}) {
            Check.due("back(" + n + ")", x.back(n), NONE);
            Check.due("bytes", x.count(9), 23);
        }
        Check.due("back(23)", x.back(23), 0);
        Seen.nothingHappens("back(21)", y -> y.back(21));
        Seen.nothingHappens("back(-1)", y -> y.back(-1));
        Check.feedText(x, " ".repeat(2000));
        Check.due("back(2001)", x.back(2001), NONE);
        Check.due("back(2000)", x.back(2000), 0);
    }

    private static void promise4() {
        Doc.promise(4, "The tape, which is empty then, is read: 0, or the number of its FAULT.");
        String[] texts = {"days 1;", "x", "drift = (((((((", "letter a 1; letter a 1;", "learn a = 1;", "days 10;"};
        for (int fault = 0; fault <= 5; fault++) {
            HandHeirs x = new HandHeirs();
            Check.due("read of " + texts[fault], Check.readText(x, texts[fault]), fault);
            Check.due("the tape", x.count(9), 0);
            Check.due("back(1)", x.back(1), NONE);
            Check.due("read of nothing", x.read(), 0);
            Check.due("feed", x.feed(0x20202020, 0x20202020, 0x20202020, 0x20202020, 0x20202020), 20);
            Check.due("read of blanks", x.read(), 0);
        }
        HandHeirs x = Check.told("letter a 1;");
        Check.due("read of nothing", x.read(), 0);
        Check.due("letters then", x.count(0), 0);
    }

    private static void promise5() {
        Doc.promise(5, "The byte of the latest read()'s FAULT; NONE without.");
        HandHeirs x = new HandHeirs();
        Check.due("before any read", x.place(), NONE);
        Check.readText(x, "x");
        Check.due("the first byte", x.place(), 0);
        Check.due("once more", x.place(), 0);
        Check.feedText(x, "days 10;");
        Check.due("before it is read", x.place(), 0);
        x.read();
        Check.due("then", x.place(), 5);
        x.years(1);
        x.undo();
        x.hold(0);
        x.restore(0);
        Check.due("the latest", x.place(), 5);
        Check.readText(x, "days 9;");
        Check.due("without", x.place(), NONE);
        Check.readText(x, " ".repeat(1996) + "days");
        Check.due("the text's end", x.place(), 2000);
        x.read();
        Check.due("without", x.place(), NONE);
    }
}
