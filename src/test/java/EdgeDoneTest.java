/** The edges of what is done: promises 12 to 15, sentence by sentence. */
public final class EdgeDoneTest {
    private static final int NONE = HandHeirs.NONE;
    private static final String SIX = "letter a 99; letter b 99; letter c 99; letter d 99; letter e 99; letter f 99; heir g 1 0 0 0 0 0 0 0;"
        + "heir h 1 0 0; heir i 1 0 0; heir j 1 0 0; heir k 1 0 0; heir l 1 0 0 0 0 0 0 0; ";

    public static void main(String[] args) {
        promise12();
        promise13();
        promise14();
        promise15();
        Doc.promisesAreQuoted(12, 13, 14, 15);
        Check.end();
    }

    private static void promise12() {
        Doc.promise(12, "n LESSONS (1 .. 99) of an HEIR in a LETTER: OFF then;");
        for (int n : new int[] {1, 2, 98, 99}) {
            HandHeirs x = Check.told(SIX);
            Check.due("lesson(0, 0, " + n + ")", x.lesson(0, 0, n), 99 - n);
            Check.due("shape", x.shape(0, 0, 0), n);
            Check.due("lesson(5, 5, " + n + ")", x.lesson(5, 5, n), 99 - n);
            Check.due("shape", x.shape(5, 5, 0), n);
            Check.due("the others stay", x.shape(0, 1, 0) + x.shape(1, 0, 0) + x.shape(5, 4, 0), 0);
            Check.due("each is one thing done", x.count(10), 2);
            Check.due("no year goes", x.count(3) + x.count(5) + x.count(8), 0);
        }
        HandHeirs far = Check.told("letter a 50; heir x 99 0 0; heir y 0 0 0;");
        Check.due("no further than the HAND", far.lesson(0, 0, 99), 0);
        Check.due("shape", far.shape(0, 0, 0), 50);
        Check.due("a lesson with nothing off", far.lesson(0, 0, 1), 0);
        Check.due("a lesson without skill", far.lesson(1, 0, 99), 50);
        Check.due("they are things done too", far.count(10), 3);
        Doc.promise(12, "NONE, and nothing happens: no such ones.");
        Check.range("n of lesson(0, 0, ?)", 1, 99, n -> Check.told(SIX).lesson(0, 0, n));
        Check.range("heir of lesson(?, 0, 1)", 0, 5, h -> Check.told(SIX).lesson(h, 0, 1));
        Check.range("letter of lesson(0, ?, 1)", 0, 5, l -> Check.told(SIX).lesson(0, l, 1));
        Check.due("no letters", Check.told("heir x 0 0;").lesson(0, 0, 1), NONE);
        Check.due("no heirs", Check.told("letter x 0;").lesson(0, 0, 1), NONE);
        int[][] refused = {{0, 0, 0}, {0, 0, -1}, {0, 0, 100}, {2, 0, 1}, {-1, 0, 1}, {0, 2, 1}, {0, -1, 1}, {-1, -1, -1}};
        for (int[] r : refused) {
            String call = "lesson(" + r[0] + ", " + r[1] + ", " + r[2] + ")";
            Seen.nothingHappens(call, x -> Check.due(call, x.lesson(r[0], r[1], r[2]), NONE));
        }
    }

    private static void promise13() {
        Doc.promise(13, "n YEARS (0 .. 100; 0 is no thing done): which it is;");
        String world = "letter a 50; heir x 1 0 0; master m = off; days 1; ";
        for (int n : new int[] {1, 2, 49, 99, 100}) {
            HandHeirs x = Check.told(world);
            Check.due("years(" + n + ")", x.years(n), n);
            Check.due("the year", x.count(3), n);
            Check.due("eyes", x.count(5), n);
            Check.due("in the book", x.count(8), n);
            Check.due("shape", x.shape(0, 0, 0), Math.min(n, 50));
            Check.due("had it", x.heir(0, 3), n);
            Check.due("one thing done", x.count(10), 1);
            Check.due("years(1) more", x.years(1), n + 1);
            Check.due("years(0) more", x.years(0), n + 1);
            Check.due("two things done", x.count(10), 2);
        }
        Seen.nothingHappens("years(0)", x -> Check.due("years(0)", x.years(0), 3));
        HandHeirs x = Check.told(world);
        Check.due("years(0)", x.years(0), 0);
        Check.due("things done", x.count(10), 0);
        Check.due("undo", x.undo(), false);
        Doc.promise(13, "NONE, and nothing happens: no such n.");
        Check.range("n of years", 0, 100, n -> Check.told(world).years(n));
        for (int n : new int[] {-1, -2, 101, 102, Integer.MIN_VALUE, Integer.MAX_VALUE}) {
            Seen.nothingHappens("years(" + n + ")", y -> Check.due("years(" + n + ")", y.years(n), NONE));
        }
    }

    private static void promise14() {
        Doc.promise(14, "The last thing done (lesson, years) is undone: true;");
        HandHeirs x = Check.told(Seen.BUSY);
        String[] before = new String[6];
        for (int i = 0; i < 6; i++) {
            before[i] = Seen.now(x);
            if (i % 2 == 0) {
                x.lesson(i / 2 % 2, 0, 1);
            } else {
                x.years(i);
            }
        }
        for (int i = 5; i >= 0; i--) {
            Check.due("undo", x.undo(), true);
            Check.due("as it was before thing " + i, Seen.now(x), before[i]);
        }
        whatIsNoThingDone();
        Doc.promise(14, "false: there is none (the last 30 can be).");
        Check.due("nothing told", new HandHeirs().undo(), false);
        Check.due("all are undone", x.undo(), false);
        Check.due("and stay so", Seen.now(x), before[0]);
        for (int things : new int[] {1, 29, 30, 31, 32, 60, 61}) {
            HandHeirs y = Check.told("letter a 99; heir x 1 0 0; days 0;");
            for (int i = 1; i <= things; i++) {
                // a year and a lesson by turns; what was done is told by the year and the SHAPE
                Check.due("thing " + i, i % 2 == 0 ? y.years(1) : 99 - y.lesson(0, 0, 1), i % 2 == 0 ? i / 2 : i / 2 + 1);
                Check.due("things that can be undone", y.count(10), Math.min(30, i));
            }
            for (int i = things; i > Math.max(0, things - 30); i--) {
                Check.due("undo of thing " + i + " of " + things, y.undo(), true);
                Check.due("the year then", y.count(3), (i - 1) / 2);
                Check.due("the shape then", y.shape(0, 0, 0), i / 2);
            }
            Check.due("no more", y.undo(), false);
            Check.due("the year stays", y.count(3), Math.max(0, things - 30) / 2);
            Check.due("the shape stays", y.shape(0, 0, 0), (Math.max(0, things - 30) + 1) / 2);
        }
        Check.due("as after a restore", afterRestore(), false);
    }

    /** Refused calls and all other calls can't be undone. */
    private static void whatIsNoThingDone() {
        HandHeirs x = Check.told(Seen.BUSY);
        x.years(1);
        x.lesson(0, 0, 1);
        x.years(0);
        x.years(101);
        x.lesson(0, 0, 0);
        x.tell(0, 1);
        x.hold(1);
        x.forget();
        x.feed(1, 1, 1, 1, 1);
        x.back(1);
        x.plan(0, 3);
        x.bias(0, 3);
        Check.due("things done", x.count(10), 2);
        Check.due("undo", x.undo(), true);
        Check.due("the lesson was the last", x.count(3), 1);
        Check.due("the tape stays", x.count(9), 19);
        Check.due("the slot stays", x.count(12), 1);
        Check.due("undo", x.undo(), true);
        Check.due("no more", x.undo(), false);
    }

    private static boolean afterRestore() {
        HandHeirs x = Check.told("letter a 99; heir x 1 0 0;");
        x.lesson(0, 0, 1);
        x.hold(0);
        x.restore(0);
        return x.undo();
    }

    private static void promise15() {
        Doc.promise(15, "Of a year in the book: the HAND's SHAPE of a LETTER when it was JUDGED");
        HandHeirs x = Check.told("letter a 50; letter b 60; letter c 97; letter d 1; letter e 5; letter f 70; heir x 0 0; heir y 0 0 51 61;"
            + "master m = if year < 1 then own else if year < 2 then 9 else 99 - own; days 0; limit 350;"
            + "drift = if letter < 1 then 1 else if letter < 3 then 2 else if letter < 5 then 0 - 1 else year;");
        x.years(3);
        int[][] hands = {{50, 60, 97, 1, 5, 70}, {51, 62, 99, 0, 4, 70}, {52, 64, 99, 0, 3, 71}, {53, 66, 99, 0, 2, 73}};
        for (int year = 0; year < 3; year++) {
            for (int letter = 0; letter < 6; letter++) {
                Check.due("book(" + year + ", " + letter + ")", x.book(year, letter), hands[year][letter]);
            }
        }
        for (int letter = 0; letter < 6; letter++) {
            Check.due("the hand that is now", x.hand(letter), hands[3][letter]);
        }
        Doc.promise(15, "(letter NONE: who was given the estate, -2: nobody);");
        Check.due("the first, 300 unlike", x.book(0, NONE), 0);
        Check.due("of alike ones the first", x.book(1, NONE), 0);
        Check.due("the other, 282 unlike", x.book(2, NONE), 1);
        HandHeirs limit = Check.told("letter a 50; heir x 0 0; master m = year; days 0; limit 1;");
        limit.years(3);
        Check.due("at the limit", limit.book(1, NONE), 0);
        Check.due("above the limit", limit.book(2, NONE), -2);
        HandHeirs none = new HandHeirs();
        none.years(1);
        Check.due("nothing told", none.book(0, NONE), -2);
        Doc.promise(15, "NONE: no such ones.");
        Check.range("year of book(?, 0)", 0, 2, y -> x.book(y, 0));
        Check.range("year of book(?, NONE)", 0, 2, y -> x.book(y, NONE));
        // a letter NONE is one below 0 and means who: the range is -1 .. 5
        Check.range("letter of book(0, ?)", 0, 5, l -> l == NONE ? NONE : x.book(0, l));
        Check.due("book(0, -2)", x.book(0, -2), NONE);
        Check.due("book(0, 6)", x.book(0, 6), NONE);
        Check.due("book(3, 6)", x.book(3, 6), NONE);
        HandHeirs fresh = Check.told("letter a 50;");
        Check.due("an empty book", fresh.book(0, 0), NONE);
        Check.due("an empty book", fresh.book(0, NONE), NONE);
        fresh.years(1);
        Check.due("its first year", fresh.book(0, 0), 50);
        Check.due("the year that is now", fresh.book(1, 0), NONE);
        fresh.undo();
        Check.due("undone", fresh.book(0, 0), NONE);
        for (int i = 0; i < 4; i++) {
            fresh.years(100);
        }
        Check.range("year of a full book", 0, 399, y -> fresh.book(y, 0));
        fresh.years(1);
        Check.range("year of a book that is more than full", 0, 399, y -> fresh.book(y, 0));
        fresh.undo();
        fresh.undo();
        Check.range("year after undo", 0, 299, y -> fresh.book(y, 0));
        Seen.nothingHappens("book", y -> {
            y.book(0, 0);
            y.book(0, NONE);
            y.book(9, 9);
        });
    }
}
