/** The edges of what is now: promises 6 to 11, sentence by sentence. */
public final class EdgeNowTest {
    private static final int NONE = HandHeirs.NONE;
    private static final String SIX_LETTERS = "letter a 10; letter b 11; letter c 12; letter d 13; letter e 14; letter f 15; ";
    private static final String SIX_HEIRS = "heir g 20 0 1 2 3 4 5 6; heir h 21 1; heir i 22 2; heir j 23 3; heir k 24 4; heir l 25 9 90 80 70 60 50 40; ";
    private static final String THREE_MASTERS = "master m = off; master n = own; master o = 5; ";

    public static void main(String[] args) {
        promise6();
        promise7();
        promise8();
        promise9();
        promise10();
        promise11();
        Doc.promisesAreQuoted(6, 7, 8, 9, 10, 11);
        Check.end();
    }

    private static void promise6() {
        Doc.promise(6, "The HAND's SHAPE of a LETTER; NONE: no such one.");
        for (int count = 1; count <= 6; count++) {
            HandHeirs x = Check.told(SIX_LETTERS.substring(0, 13 * count));
            Check.range("hand, letters " + count, 0, count - 1, x::hand);
            Check.due("the first", x.hand(0), 10);
            Check.due("the last", x.hand(count - 1), 9 + count);
        }
        Check.due("of none", new HandHeirs().hand(0), NONE);
        HandHeirs x = Check.told("letter a 98; letter b 1; heir x 0 0; master m = 0; drift = 2 - 4*letter;");
        x.years(1);
        Check.due("held to 99", x.hand(0), 99);
        Check.due("held to 0", x.hand(1), 0);
        Seen.nothingHappens("hand", y -> {
            y.hand(0);
            y.hand(-1);
            y.hand(2);
        });
    }

    private static void promise7() {
        Doc.promise(7, "SHAPE of an HEIR's LETTER: what 0 as he has it, 1 as he writes it this year, 2 OFF;");
        HandHeirs x = Check.told(SIX_LETTERS + SIX_HEIRS + "seed 9999; days 0;");
        Check.due("as he has it, first", x.shape(0, 0, 0), 1);
        Check.due("as he writes it, first", x.shape(0, 0, 1), 1);
        Check.due("off, first", x.shape(0, 0, 2), 9);
        Check.due("as he has it, last", x.shape(5, 5, 0), 40);
        Check.due("as he writes it, last", x.shape(5, 5, 1), 40 + 11 - 9);
        Check.due("off is as he has it", x.shape(5, 5, 2), 25);
        x.years(1);
        Check.due("as he writes it the next year", x.shape(5, 5, 1), 40 + 18 - 9);
        Check.due("as he has it the next year", x.shape(5, 5, 0), 40);
        Doc.promise(7, "NONE for others.");
        for (int what = 0; what <= 2; what++) {
            int w = what;
            Check.range("heir of shape(?, 0, " + what + ")", 0, 5, h -> x.shape(h, 0, w));
            Check.range("letter of shape(0, ?, " + what + ")", 0, 5, l -> x.shape(0, l, w));
        }
        Check.range("what of shape(0, 0, ?)", 0, 2, w -> x.shape(0, 0, w));
        HandHeirs y = Check.told("letter a 10; heir h 1 1;");
        Check.range("heir, one there", 0, 0, h -> y.shape(h, 0, 0));
        Check.range("letter, one there", 0, 0, l -> y.shape(0, l, 0));
        Check.due("no letters", Check.told("heir h 1 1 5;").shape(0, 0, 0), NONE);
        Check.due("no heirs", Check.told("letter a 5;").shape(0, 0, 0), NONE);
        Seen.nothingHappens("shape", z -> {
            z.shape(0, 0, 1);
            z.shape(0, 0, 3);
            z.shape(2, 2, 0);
        });
    }

    private static void promise8() {
        Doc.promise(8, "Of an HEIR: what 0 SKILL, 1 TREMOR, 2 what he is UNLIKE to all MASTERS now, 3 for how many years he had the estate, "
            + "4 what he LEARNS today (day 0; -2: none).");
        HandHeirs x = Check.told(SIX_LETTERS + SIX_HEIRS + THREE_MASTERS + "seed 9999; days 0; learn k = 0 - 1; learn l = 3 + day; learn j = year;");
        for (int heir = 0; heir < 6; heir++) {
            Check.due("skill", x.heir(heir, 0), 20 + heir);
            Check.due("tremor", x.heir(heir, 1), heir == 5 ? 9 : heir);
        }
        Check.due("unlike, all 9 off, own 1 to 6", x.heir(0, 2), 6 * 9 + 21 + 30);
        // the last one writes 99, 85, 77, 57, 41, 42: LOT is 18, 14, 16, 6, 0, 11
        Check.due("unlike as he writes", x.heir(5, 2), 2 * (99 + 85 + 77 + 57 + 41 + 42) - 75 + 30);
        Check.due("learns none", x.heir(4, 4), -2);
        Check.due("learns by law, day 0", x.heir(5, 4), 3);
        Check.due("learns by year 0", x.heir(3, 4), 0);
        Check.due("learns what is most off, of alike ones the first", x.heir(0, 4), 0);
        Check.due("had it in no year", x.heir(0, 3), 0);
        x.years(1);
        Check.due("had it in year 0", x.heir(0, 3), 1);
        Check.due("the others did not", x.heir(1, 3) + x.heir(5, 3), 0);
        Check.due("learns by year 1", x.heir(3, 4), 1);
        x.years(100);
        Check.due("had it in 101 years", x.heir(0, 3), 101);
        for (int i = 0; i < 3; i++) {
            x.years(100);
        }
        Check.due("had it in 401 years, of which the book leads 400", x.heir(0, 3), 401);
        HandHeirs nobody = Check.told("letter a 5; heir x 0 0; master m = 1; limit 0;");
        nobody.years(9);
        Check.due("nobody had it", nobody.heir(0, 3), 0);
        Check.due("no masters", Check.told("letter a 5; heir x 0 0;").heir(0, 2), 0);
        HandHeirs bare = Check.told("heir x 0 0; master m = 9;");
        Check.due("no letters", bare.heir(0, 2), 0);
        Check.due("learns none without letters", bare.heir(0, 4), -2);
        HandHeirs most = Check.told(SIX_LETTERS + "heir x 0 0; master m = 9999; master n = 999; master o = 1000;");
        Check.due("the most there is", most.heir(0, 2), 18 * 999);
        Doc.promise(8, "NONE for others.");
        HandHeirs y = Check.told(SIX_LETTERS + SIX_HEIRS + THREE_MASTERS);
        for (int what = 0; what <= 4; what++) {
            int w = what;
            Check.range("heir of heir(?, " + what + ")", 0, 5, h -> y.heir(h, w));
        }
        Check.range("what of heir(0, ?)", 0, 4, w -> y.heir(0, w));
        Check.range("heir, one there", 0, 0, h -> bare.heir(h, 0));
        Check.due("no heirs", new HandHeirs().heir(0, 0), NONE);
        Seen.nothingHappens("heir", z -> {
            z.heir(0, 2);
            z.heir(0, 4);
            z.heir(0, 5);
            z.heir(2, 0);
        });
    }

    private static void promise9() {
        Doc.promise(9, "UNLIKE to a MASTER now;");
        HandHeirs x = Check.told(SIX_LETTERS + SIX_HEIRS + THREE_MASTERS + "seed 9999; days 0;");
        Check.due("unlike(0, 0)", x.unlike(0, 0), 54);
        Check.due("unlike(0, 1)", x.unlike(0, 1), 21);
        Check.due("unlike(0, 2)", x.unlike(0, 2), 30);
        Check.due("unlike(5, 0)", x.unlike(5, 0), 99 + 85 + 77 + 57 + 41 + 42 - 75);
        Check.due("unlike(5, 1)", x.unlike(5, 1), 99 + 85 + 77 + 57 + 41 + 42);
        Check.due("unlike(5, 2)", x.unlike(5, 2), 30);
        x.years(1);
        // LOT of the next year is 6, 1, 0, 8, 17, 18
        Check.due("unlike(5, 1) in year 1", x.unlike(5, 1), 87 + 72 + 61 + 59 + 58 + 49);
        Check.due("no letters", Check.told("heir x 0 0; master m = 9;").unlike(0, 0), 0);
        Doc.promise(9, "NONE: no such ones.");
        Check.range("heir of unlike(?, 0)", 0, 5, h -> x.unlike(h, 0));
        Check.range("master of unlike(0, ?)", 0, 2, m -> x.unlike(0, m));
        HandHeirs one = Check.told("heir x 0 0; master m = 9;");
        Check.range("heir, one there", 0, 0, h -> one.unlike(h, 0));
        Check.range("master, one there", 0, 0, m -> one.unlike(0, m));
        Check.due("no masters", Check.told("heir x 0 0;").unlike(0, 0), NONE);
        Check.due("no heirs", Check.told("master m = 9;").unlike(0, 0), NONE);
        Seen.nothingHappens("unlike", y -> {
            y.unlike(0, 0);
            y.unlike(2, 2);
        });
    }

    private static void promise10() {
        Doc.promise(10, "For whom a MASTER would vote now; -2: no HEIRS;");
        HandHeirs x = Check.told("letter a 50; heir x 5 0 40; heir y 0 0 41; master m = off; master n = own; days 1;");
        Check.due("vote(0)", x.vote(0), 1);
        Check.due("vote(1)", x.vote(1), 0);
        x.lesson(0, 0, 1);
        Check.due("vote(0) then", x.vote(0), 0);
        Check.due("vote(1) then", x.vote(1), 1);
        Check.due("though it is nobody's", Check.told("letter a 5; heir x 0 0; master m = 1; limit 0;").vote(0), 0);
        HandHeirs none = Check.told("letter a 5; master m = 1; master n = 1; master o = 1;");
        Check.due("no heirs, first", none.vote(0), -2);
        Check.due("no heirs, last", none.vote(2), -2);
        Doc.promise(10, "NONE: no such MASTER.");
        HandHeirs y = Check.told(SIX_LETTERS + SIX_HEIRS + THREE_MASTERS);
        Check.range("master of vote", 0, 2, y::vote);
        Check.range("master of vote without heirs", 0, 2, none::vote);
        Check.range("master, two there", 0, 1, x::vote);
        Check.due("no masters", Check.told("heir x 0 0;").vote(0), NONE);
        Check.due("neither", new HandHeirs().vote(0), NONE);
        Seen.nothingHappens("vote", z -> {
            z.vote(0);
            z.vote(2);
            z.vote(-1);
        });
    }

    private static void promise11() {
        Doc.promise(11, "Who would be given the estate now; -2: nobody.");
        String world = "letter a 50; heir x 5 0 40; heir y 0 0 41; master m = off; days 1; ";
        HandHeirs x = Check.told(world);
        Check.due("judge", x.judge(), 1);
        x.lesson(0, 0, 1);
        Check.due("judge then", x.judge(), 0);
        Check.due("nobody has it for that", x.count(4), -2);
        Check.due("at the limit", Check.told(world + "limit 9;").judge(), 1);
        Check.due("above the limit", Check.told(world + "limit 8;").judge(), -2);
        Check.due("no heirs", Check.told("letter a 5; master m = 1;").judge(), -2);
        Check.due("no masters", Check.told("letter a 5; heir x 0 0;").judge(), -2);
        Check.due("nothing told", new HandHeirs().judge(), -2);
        Check.due("the last of six", Check.told("letter a 50; heir x 0 0 40; heir y 0 0 41; heir z 0 0 42; heir u 0 0 43; heir v 0 0 44;"
            + "heir w 0 0 45; master m = off;").judge(), 5);
        Seen.nothingHappens("judge()", HandHeirs::judge);
    }
}
