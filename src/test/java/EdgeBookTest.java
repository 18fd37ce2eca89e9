/** The edges of the book, papers and SLOTS: the end of Terms and promises 24, 25 and 27 to 32, sentence by sentence. */
public final class EdgeBookTest {
    private static final int NONE = HandHeirs.NONE;
    private static final String SIX = "letter a 50; letter b 50; letter c 50; letter d 50; letter e 50; letter f 50; heir g 1 0 49 48 47 46 45 44;"
        + "heir h 1 0; heir i 1 0; heir j 1 0; heir k 1 0; heir l 1 0 0 0 0 0 0 99; master m = off; ";

    public static void main(String[] args) {
        reigns();
        longReigns();
        copies();
        copiesOfLongAgo();
        papers();
        dates();
        datesOfLongAgo();
        Doc.termsAreQuoted("From the book:", "all LETTERS together; of alike ones the first.");
        Doc.termsAreQuoted("TOLD: a SHAPE", "in all that is KNOWN.");
        promise24();
        promise25();
        promise27();
        promise28();
        promise29();
        promise30();
        promise31();
        promise32();
        Doc.promisesAreQuoted(24, 25, 27, 28, 29, 30, 31, 32);
        manyCalls();
        Check.end();
    }

    private static void reign(HandHeirs x, int most, int first, int who) {
        Check.due("reign(0) in year " + x.count(3), x.reign(0), most);
        Check.due("reign(1) in year " + x.count(3), x.reign(1), first);
        Check.due("reign(2) in year " + x.count(3), x.reign(2), who);
    }

    private static void reigns() {
        Doc.terms(24, "From the book: REIGN: the most years one after the other in which one and the same HEIR was given the estate, "
            + "the first of these years, and who; of alike ones the first.");
        // x until year 2, y in 2 and 3, x in 4, 5 and 6, nobody in 7 and later
        HandHeirs x = Check.told("letter a 0; heir x 0 0 0; heir y 0 0 10; days 0; limit 20; master m = if year < 2 then own else "
            + "if year < 4 then 20 - own else if year < 7 then own else 99;");
        x.years(1);
        reign(x, 1, 0, 0);
        x.years(1);
        reign(x, 2, 0, 0);
        x.years(1);
        reign(x, 2, 0, 0);
        x.years(1);
        // y has two as well: of alike ones the first
        reign(x, 2, 0, 0);
        x.years(2);
        reign(x, 2, 0, 0);
        x.years(1);
        reign(x, 3, 4, 0);
        x.years(9);
        // nobody has nine years, which are no reign
        reign(x, 3, 4, 0);
        Check.due("nobody's", x.book(15, NONE), -2);
        // x, y, y, x, x by turns: not five years of one, not three of x
        x = Check.told("letter a 0; heir x 0 0 0; heir y 0 0 10; days 0; master m = if year < 1 then own else if year < 3 then 20 - own else own;");
        x.years(1);
        reign(x, 1, 0, 0);
        x.years(1);
        reign(x, 1, 0, 0);
        x.years(1);
        reign(x, 2, 1, 1);
        x.years(1);
        reign(x, 2, 1, 1);
        x.years(1);
        reign(x, 2, 1, 1);
        x.years(1);
        reign(x, 3, 3, 0);
        // nobody's year lies between two years of one heir
        x = Check.told("letter a 0; heir x 0 0 0; days 0; limit 5; master m = if year < 2 then 0 else if year < 3 then 9 else 0;");
        x.years(5);
        reign(x, 2, 0, 0);
        x.years(1);
        reign(x, 3, 3, 0);
        // nobody at first
        x = Check.told("letter a 0; heir x 0 0 0; days 0; limit 5; master m = if year < 4 then 9 else 0;");
        x.years(4);
        reign(x, -2, -2, -2);
        x.years(1);
        reign(x, 1, 4, 0);
    }

    private static void longReigns() {
        HandHeirs x = Check.told("letter a 0; heir x 0 0 0; heir y 0 0 10; days 0; master m = if year < 201 then own else 20 - own;");
        for (int i = 0; i < 4; i++) {
            x.years(100);
        }
        reign(x, 201, 0, 0);
        x.years(100);
        // y goes on to have it, but in years that are not in the book
        reign(x, 201, 0, 0);
        x = Check.told("letter a 0; heir x 0 0 0; days 0; master m = 0;");
        for (int i = 0; i < 3; i++) {
            x.years(100);
        }
        x.years(99);
        reign(x, 399, 0, 0);
        x.years(1);
        reign(x, 400, 0, 0);
        x.years(1);
        reign(x, 400, 0, 0);
        x.undo();
        x.undo();
        reign(x, 399, 0, 0);
    }

    private static void copies() {
        Doc.terms(25, "COPIED from: the year in the book (or that which is now) whose HAND, when it was JUDGED (now: as it is), is least apart "
            + "from an HEIR's SHAPES as they are, all LETTERS together; of alike ones the first.");
        HandHeirs x = Check.told("letter a 10; heir x 0 0 13; heir y 0 0 14; heir z 0 0 0; days 0; master m = 0; drift = 1;");
        copied(x, 0, 0, 3);
        x.years(1);
        copied(x, 0, 1, 2);
        x.years(3);
        copied(x, 0, 3, 0);
        copied(x, 1, 4, 0);
        copied(x, 2, 0, 10);
        x.years(1);
        copied(x, 0, 3, 0);
        copied(x, 1, 4, 0);
        // 12 and 14 are alike far from 13: in the book, or one of them now
        x = Check.told("letter a 10; heir x 0 0 13; days 0; master m = 0; drift = 2;");
        x.years(1);
        copied(x, 0, 1, 1);
        x.years(1);
        copied(x, 0, 1, 1);
        x.years(1);
        copied(x, 0, 1, 1);
        // all letters together: 3 and 8, then 2 and 4, then 1 and 0, then 0 and 4; SHAPES as he has them
        x = Check.told("letter a 10; letter b 50; heir x 0 9 13 42; days 0; master m = 0; drift = 1 - 5*letter; seed 9999;");
        x.years(3);
        copied(x, 0, 2, 1);
        Check.due("undo", x.undo(), true);
        copied(x, 0, 0, 11);
        // as they are now, not as they were in that year
        x = Check.told("letter a 10; heir x 1 0 20; days 1; master m = 0; drift = 0;");
        x.years(9);
        copied(x, 0, 0, 1);
        x.lesson(0, 0, 1);
        copied(x, 0, 0, 0);
        x = Check.told("heir x 1 0 20; master m = 0;");
        x.years(3);
        copied(x, 0, 0, 0);
    }

    private static void copied(HandHeirs x, int heir, int year, int apart) {
        Check.due("copied(" + heir + ", 0) in year " + x.count(3), x.copied(heir, 0), year);
        Check.due("copied(" + heir + ", 1) in year " + x.count(3), x.copied(heir, 1), apart);
    }

    /** The hand is 0 until year 398, then 1, 2 and so on. */
    private static HandHeirs fullBook() {
        HandHeirs x = Check.told("letter a 0; heir x 0 0 1; heir y 0 0 2; heir z 0 0 3; days 0; master m = 0; drift = if year < 398 then 0 else 1;");
        for (int i = 0; i < 3; i++) {
            x.years(100);
        }
        x.years(99);
        return x;
    }

    private static void copiesOfLongAgo() {
        HandHeirs x = fullBook();
        copied(x, 0, 399, 0);
        copied(x, 1, 399, 1);
        x.years(1);
        copied(x, 0, 399, 0);
        copied(x, 1, 400, 0);
        x.years(1);
        // year 400 is not in the book: 1 from 399 on one side, 1 from now, which is 401, on the other
        copied(x, 0, 399, 0);
        copied(x, 1, 399, 1);
        copied(x, 2, 401, 0);
    }

    private static void papers() {
        Doc.terms(27, "TOLD: a SHAPE (0 .. 99) of a LETTER in a paper, 20 at most, numbered from 0 on;");
        HandHeirs x = Check.told(SIX);
        Check.range("shape of tell(0, ?)", 0, 99, s -> Check.told(SIX).tell(0, s));
        for (int i = 0; i < 20; i++) {
            Check.due("tell " + i, x.tell(i % 6, i == 0 ? 0 : 99), i);
            Check.due("there are", x.count(11), i + 1);
        }
        Check.due("a 21st", x.tell(0, 0), NONE);
        Check.due("there are", x.count(11), 20);
        Doc.terms(29, "KNOWN by k: the first k.");
        x = Check.told("letter a 50; letter b 60;");
        x.tell(0, 50);
        x.tell(1, 61);
        x.tell(0, 53);
        Check.due("none known", x.dated(0, 0, NONE), 1);
        Check.due("the first", x.dated(0, 1, NONE), 1);
        Check.due("the first two, 1 apart", x.dated(0, 2, NONE), 0);
        Check.due("the first two, 1 apart", x.dated(1, 2, NONE), 1);
        Check.due("all three, 3 apart", x.dated(2, 3, NONE), 0);
        Check.due("all three, 3 apart", x.dated(3, 3, NONE), 1);
        Check.due("not so many", x.dated(3, 4, NONE), NONE);
    }

    private static void dates() {
        Doc.terms(29, "DATED by t (0 .. 99): years of the book (the year that is now, with the HAND as it is, the last of all) in which HAND, "
            + "as it was when that year was JUDGED, and paper are no more than t apart in all that is KNOWN.");
        HandHeirs x = Check.told("letter a 10; letter b 90; heir x 0 0; days 0; master m = 0; drift = 1 - 3*letter;");
        x.years(4);
        // a is 10, 11, 12, 13 and 14 now, b is 90, 88, 86, 84 and 82 now
        x.tell(0, 12);
        dated(x, 0, 1, 2);
        dated(x, 1, 1, 1, 2, 3);
        dated(x, 2, 1, 0, 1, 2, 3, 4);
        dated(x, 99, 1, 0, 1, 2, 3, 4);
        x.tell(1, 84);
        dated(x, 0, 2);
        dated(x, 1, 2, 3);
        dated(x, 2, 2, 2, 3, 4);
        dated(x, 3, 2, 2, 3, 4);
        dated(x, 4, 2, 1, 2, 3, 4);
        dated(x, 6, 2, 0, 1, 2, 3, 4);
        dated(x, 0, 0, 0, 1, 2, 3, 4);
        // not the sum of both: in year 2 they are 0 and 2 apart, in year 4 they are 2 and 2
        x.tell(1, 82);
        dated(x, 1, 3);
        dated(x, 2, 3, 3, 4);
        x.years(1);
        Check.due("now is the last of all", x.dated(99, 0, 5), 5);
        HandHeirs far = Check.told("letter a 99; letter b 0;");
        far.tell(0, 0);
        dated(far, 98, 1);
        dated(far, 99, 1, 0);
        far.forget();
        far.tell(1, 99);
        dated(far, 98, 1);
        dated(far, 99, 1, 0);
        // nothing is told: there is the year that is now
        dated(new HandHeirs(), 0, 0, 0);
    }

    private static void dated(HandHeirs x, int t, int k, int... years) {
        String call = "dated(" + t + ", " + k + ", ";
        Check.due(call + "NONE)", x.dated(t, k, NONE), years.length);
        for (int i = 0; i < years.length; i++) {
            Check.due(call + i + ")", x.dated(t, k, i), years[i]);
        }
        Check.due(call + years.length + ")", x.dated(t, k, years.length), NONE);
    }

    private static void datesOfLongAgo() {
        HandHeirs x = fullBook();
        x.tell(0, 1);
        dated(x, 0, 1, 399);
        x.years(1);
        dated(x, 0, 1, 399);
        Check.due("398 years, 399 and 400", x.dated(1, 1, NONE), 401);
        Check.due("the one before", x.dated(1, 1, 399), 399);
        Check.due("now", x.dated(1, 1, 400), 400);
        x.years(1);
        Check.due("400 is not in the book, 401 is 2 apart", x.dated(1, 1, NONE), 400);
        Check.due("nor is 400 there with 2", x.dated(2, 1, NONE), 401);
        Check.due("the last in the book", x.dated(2, 1, 399), 399);
        Check.due("now", x.dated(2, 1, 400), 401);
    }

    private static void promise24() {
        Doc.promise(24, "REIGN: what 0 how many years, 1 the first, 2 who; -2: in none an HEIR was;");
        HandHeirs x = Check.told("letter a 50; heir x 0 0 40; heir y 0 0 50; days 0; master m = if year < 1 then own else off;");
        reign(x, -2, -2, -2);
        x.years(1);
        reign(x, 1, 0, 0);
        x.years(2);
        reign(x, 2, 1, 1);
        x.undo();
        x.undo();
        reign(x, -2, -2, -2);
        HandHeirs nobody = Check.told("letter a 50; heir x 0 0 40; master m = 1; limit 0;");
        nobody.years(100);
        reign(nobody, -2, -2, -2);
        HandHeirs none = new HandHeirs();
        reign(none, -2, -2, -2);
        none.years(1);
        reign(none, -2, -2, -2);
        Doc.promise(24, "NONE for others.");
        x.years(3);
        Check.range("what of reign", 0, 2, x::reign);
        Check.range("what of reign in an empty book", 0, 2, Check.told(SIX)::reign);
        Seen.nothingHappens("reign", y -> {
            y.reign(0);
            y.reign(3);
        });
    }

    private static void promise25() {
        Doc.promise(25, "COPIED: what 0 the year, 1 how far apart;");
        HandHeirs x = Check.told(SIX + "days 0;");
        copied(x, 0, 0, 21);
        copied(x, 5, 0, 5 * 50 + 49);
        x.years(1);
        copied(x, 5, 0, 299);
        HandHeirs far = Check.told("letter a 0; letter b 0; letter c 0; letter d 0; letter e 0; letter f 0; heir x 0 0 99 99 99 99 99 99;");
        copied(far, 0, 0, 6 * 99);
        Doc.promise(25, "NONE: no such ones.");
        for (int what = 0; what <= 1; what++) {
            int w = what;
            Check.range("heir of copied(?, " + what + ")", 0, 5, h -> x.copied(h, w));
        }
        Check.range("what of copied(0, ?)", 0, 1, w -> x.copied(0, w));
        Check.range("heir, one there", 0, 0, h -> far.copied(h, 0));
        Check.due("no heirs", new HandHeirs().copied(0, 0), NONE);
        Seen.nothingHappens("copied", y -> {
            y.copied(0, 0);
            y.copied(2, 2);
        });
    }

    private static void promise27() {
        Doc.promise(27, "It is TOLD: its number;");
        HandHeirs x = Check.told(SIX);
        Check.due("the first", x.tell(0, 0), 0);
        Check.due("the second", x.tell(5, 99), 1);
        Check.due("the same once more", x.tell(5, 99), 2);
        Check.due("it is no thing done", x.count(10), 0);
        Doc.promise(27, "NONE, and nothing happens: 20 are there, no such ones.");
        Check.range("letter of tell(?, 0)", 0, 5, l -> Check.told(SIX).tell(l, 0));
        Check.range("shape of tell(0, ?)", 0, 99, s -> Check.told(SIX).tell(0, s));
        int[][] refused = {{2, 0}, {-1, 0}, {0, -1}, {0, 100}, {Integer.MIN_VALUE, 0}, {0, Integer.MAX_VALUE}};
        for (int[] r : refused) {
            String call = "tell(" + r[0] + ", " + r[1] + ")";
            Seen.nothingHappens(call, y -> Check.due(call, y.tell(r[0], r[1]), NONE));
        }
        x = Check.told("letter a 50; letter b 60;");
        for (int i = 0; i < 19; i++) {
            x.tell(0, 50);
        }
        Check.due("the twentieth", x.tell(1, 60), 19);
        Check.due("a twenty-first", x.tell(1, 99), NONE);
        Check.due("all fit yet", x.dated(0, 20, NONE), 1);
        Check.due("there are 20", x.dated(0, 21, NONE), NONE);
        Check.due("no letters", new HandHeirs().tell(0, 0), NONE);
    }

    private static void promise28() {
        Doc.promise(28, "All that was TOLD is forgotten: how many there were.");
        HandHeirs x = Check.told("letter a 50;");
        Check.due("none", x.forget(), 0);
        x.tell(0, 1);
        Check.due("one", x.forget(), 1);
        Check.due("none then", x.forget(), 0);
        for (int i = 0; i < 20; i++) {
            x.tell(0, 1);
        }
        x.tell(0, 1);
        Check.due("twenty", x.forget(), 20);
        Check.due("there are", x.count(11), 0);
        Check.due("none is known", x.dated(0, 1, NONE), NONE);
        Check.due("numbers begin anew", x.tell(0, 50), 0);
        Check.due("it alone is known", x.dated(0, 1, NONE), 1);
    }

    private static void promise29() {
        Doc.promise(29, "DATED by t, as KNOWN by k: how many years (i NONE), else the i-th;");
        HandHeirs x = Check.told("letter a 10; heir x 0 0; days 0; master m = 0; drift = 1;");
        x.tell(0, 12);
        dated(x, 0, 1);
        dated(x, 1, 1);
        dated(x, 2, 1, 0);
        x.years(4);
        dated(x, 0, 1, 2);
        dated(x, 1, 1, 1, 2, 3);
        dated(x, 2, 1, 0, 1, 2, 3, 4);
        Doc.promise(29, "NONE: no such ones, not so many.");
        Check.range("t of dated(?, 0, NONE)", 0, 99, t -> x.dated(t, 0, NONE));
        Check.range("t of dated(?, 0, 0)", 0, 99, t -> x.dated(t, 0, 0));
        Check.range("k of dated(9, ?, NONE), one told", 0, 1, k -> x.dated(9, k, NONE));
        Check.range("k of dated(9, ?, 0), one told", 0, 1, k -> x.dated(9, k, 0));
        // i NONE is one below 0 and means how many
        Check.range("i of dated(9, 0, ?)", 0, 4, i -> i == NONE ? NONE : x.dated(9, 0, i));
        Check.due("i -2", x.dated(9, 0, -2), NONE);
        Check.due("i 4 of 5", x.dated(9, 0, 4), 4);
        Check.due("i 5 of 5", x.dated(9, 0, 5), NONE);
        Check.due("i 0 of none", Check.told("letter a 5;").dated(0, 0, 1), NONE);
        HandHeirs full = Check.told("letter a 50;");
        for (int i = 0; i < 20; i++) {
            full.tell(0, 50);
        }
        Check.range("k of dated(0, ?, NONE), twenty told", 0, 20, k -> full.dated(0, k, NONE));
        Seen.nothingHappens("dated", y -> {
            y.dated(5, 2, NONE);
            y.dated(5, 1, 0);
            y.dated(100, 3, 9);
        });
    }

    private static void promise30() {
        Doc.promise(30, "SHAPES, HAND, eyes, the book, the year are held in a SLOT (0 .. 2): true;");
        HandHeirs x = Check.told("letter a 40; letter b 60; heir x 5 0 30 90; heir y 10 0 45 70; master m = off; drift = 1; days 1;");
        for (int slot = 0; slot <= 2; slot++) {
            Check.due("hold(" + slot + ")", x.hold(slot), true);
            Check.due("slots", x.count(12), slot + 1);
            x.years(2);
            x.lesson(0, 0, 1);
        }
        Check.due("it is no thing done, and undoes none", x.count(10), 6);
        for (int slot = 2; slot >= 0; slot--) {
            Check.due("restore(" + slot + ")", x.restore(slot), true);
            Check.due("the year", x.count(3), 2 * slot);
            Check.due("eyes", x.count(5), 2 * slot);
            Check.due("the book", x.count(8), 2 * slot);
            Check.due("HAND", x.hand(0), 40 + 2 * slot);
            // the other letter is the one that is most OFF, two lessons by years each time
            Check.due("SHAPE", x.shape(0, 1, 0), 90 - 10 * slot);
            Check.due("SHAPE", x.shape(0, 0, 0), 30 + 5 * slot);
            Check.due("book(0, 0)", x.book(0, 0), slot == 0 ? NONE : 40);
            Check.due("book, last", x.book(2 * slot - 1, 0), slot == 0 ? NONE : 39 + 2 * slot);
            Check.due("book, next", x.book(2 * slot, 0), NONE);
        }
        Check.due("what is held is held over", x.hold(2), true);
        Check.due("slots", x.count(12), 3);
        x.years(1);
        x.restore(2);
        Check.due("the year", x.count(3), 0);
        Doc.promise(30, "false: no such one.");
        for (int slot : new int[] {-1, -2, 3, 4, Integer.MIN_VALUE, Integer.MAX_VALUE}) {
            Seen.nothingHappens("hold(" + slot + ")", y -> Check.due("hold(" + slot + ")", y.hold(slot), false));
        }
        Check.due("slots of a new one", new HandHeirs().count(12), 0);
        Check.due("hold of a new one", new HandHeirs().hold(0), true);
    }

    private static void promise31() {
        Doc.promise(31, "They go on from what a SLOT holds (that stays there; nothing can be undone then): true;");
        HandHeirs x = Check.told(Seen.BUSY);
        x.years(2);
        x.lesson(0, 0, 1);
        x.hold(1);
        String then = Seen.now(x).replaceAll("^counts( [-0-9]+){13}", "");
        for (int i = 0; i < 3; i++) {
            x.years(3);
            x.lesson(1, 1, 2);
            Check.due("restore(1)", x.restore(1), true);
            Check.due("as it was", Seen.now(x).replaceAll("^counts( [-0-9]+){13}", ""), then);
            Check.due("the year", x.count(3), 2);
            Check.due("nothing can be undone", x.count(10), 0);
            Check.due("undo", x.undo(), false);
            Check.due("that stays there", x.count(12), 1);
        }
        Check.due("it goes on", x.years(1), 3);
        Check.due("what is done then can be undone", x.undo(), true);
        Check.due("the year", x.count(3), 2);
        Check.due("no further", x.undo(), false);
        HandHeirs full = fullBook();
        full.hold(0);
        full.years(2);
        full.hold(2);
        full.restore(0);
        Check.due("a book of 399", full.count(8), 399);
        Check.due("its last", full.book(398, 0), 0);
        full.restore(2);
        Check.due("a full book", full.count(8), 400);
        Check.due("the year beyond it", full.count(3), 401);
        Check.due("its last", full.book(399, 0), 1);
        HandHeirs empty = new HandHeirs();
        empty.hold(0);
        empty.years(3);
        Check.due("a SLOT that holds nothing told", empty.restore(0), true);
        Check.due("the year", empty.count(3), 0);
        twoWays();
        whatIsNotHeld();
        Doc.promise(31, "false, and nothing happens: no such one, nothing is held.");
        for (int slot : new int[] {-1, 1, 3, Integer.MIN_VALUE, Integer.MAX_VALUE}) {
            // the busy one has slots 0 and 2
            Seen.nothingHappens("restore(" + slot + ")", y -> Check.due("restore(" + slot + ")", y.restore(slot), false));
        }
        for (int slot = 0; slot <= 2; slot++) {
            Check.due("restore(" + slot + ") of a new one", new HandHeirs().restore(slot), false);
        }
    }

    /** From one SLOT on, with a lesson and without it: each way has a book of its own, to its last page. */
    private static void twoWays() {
        HandHeirs x = Check.told("letter a 50; letter b 50; letter c 50; letter d 50; letter e 50; letter f 50; heir x 9 0 40 40 40 40 40 40;"
            + "heir y 0 0 45 45 45 45 45 45; days 0; master m = off; drift = if own < hand then 0 - 1 else 0;");
        x.years(1);
        x.hold(0);
        x.years(3);
        x.hold(1);
        x.restore(0);
        for (int letter = 0; letter < 6; letter++) {
            x.lesson(0, letter, 2);
        }
        x.years(4);
        x.hold(2);
        // in year 0 y has it and the hand is 49 then; with the lesson x is at 49 too, else y goes on and the hand with him
        for (int letter = 0; letter < 6; letter++) {
            Check.due("with the lesson, last page", x.book(4, letter), 49);
        }
        Check.due("who, with the lesson", x.book(1, NONE), 0);
        x.restore(1);
        Check.due("years without it", x.count(8), 4);
        Check.due("who, without it", x.book(1, NONE), 1);
        Check.due("who, last page", x.book(3, NONE), 1);
        for (int letter = 0; letter < 6; letter++) {
            Check.due("first page", x.book(0, letter), 50);
            Check.due("without the lesson", x.book(2, letter), 48);
            Check.due("without the lesson, last page", x.book(3, letter), 47);
        }
        x.restore(2);
        Check.due("years with it", x.count(8), 5);
        Check.due("who in year 0", x.book(0, NONE), 1);
        for (int year = 1; year <= 4; year++) {
            Check.due("who in year " + year, x.book(year, NONE), 0);
        }
    }

    /** What is TOLD and on the tape goes on as it is. */
    private static void whatIsNotHeld() {
        HandHeirs x = Check.told("letter a 50;");
        x.tell(0, 1);
        x.hold(0);
        x.tell(0, 2);
        x.feed(1, 1, 1, 1, 1);
        x.restore(0);
        Check.due("TOLD", x.count(11), 2);
        Check.due("tape", x.count(9), 20);
    }

    private static void promise32() {
        Doc.promise(32, "0 LETTERS, 1 HEIRS, 2 MASTERS, 3 the year, 4 who has the estate (-2: nobody), 5 how often eyes were worn, 6 DAYS, 7 LIMIT, "
            + "8 years in the book, 9 bytes on the tape, 10 things that can be undone, 11 TOLD ones, 12 SLOTS that hold something.");
        HandHeirs x = Check.told("letter a 50; letter b 50; letter c 50; letter d 50; heir x 0 0 40; heir y 0 0; heir z 0 0; master m = off;"
            + "master n = off; days 7; limit 77; seed 5;");
        counts(x, 4, 3, 2, 0, -2, 0, 7, 77, 0, 0, 0, 0, 0);
        x.years(5);
        counts(x, 4, 3, 2, 5, 1, 5, 7, 77, 5, 0, 1, 0, 0);
        x.lesson(0, 0, 1);
        x.tell(0, 1);
        x.tell(0, 1);
        x.tell(0, 1);
        x.hold(0);
        x.hold(2);
        x.hold(2);
        x.feed(1, 2, 3, 4, 5);
        x.back(1);
        counts(x, 4, 3, 2, 5, 1, 5, 7, 77, 5, 19, 2, 3, 2);
        HandHeirs most = Check.told(SIX + "master n = 0; master o = 0; days 9; limit 9999;");
        for (int i = 0; i < 5; i++) {
            most.years(100);
        }
        for (int i = 0; i < 30; i++) {
            most.lesson(0, 0, 1);
            most.tell(0, 1);
        }
        for (int slot = 0; slot < 3; slot++) {
            most.hold(slot);
        }
        Check.feedText(most, " ".repeat(2000));
        counts(most, 6, 6, 3, 500, 0, 500, 9, 9999, 400, 2000, 30, 20, 3);
        counts(new HandHeirs(), 0, 0, 0, 0, -2, 0, 3, 9999, 0, 0, 0, 0, 0);
        HandHeirs lost = Check.told("letter a 50; heir x 0 0; master m = year; days 0; limit 1;");
        lost.years(2);
        Check.due("who has it at LIMIT", lost.count(4), 0);
        lost.years(1);
        Check.due("nobody above it", lost.count(4), -2);
        Doc.promise(32, "NONE for others.");
        // nobody is -2, so none of 0 .. 12 is ever NONE
        Check.range("what of count", 0, 12, x::count);
        Check.range("what of count of a new one", 0, 12, new HandHeirs()::count);
        Seen.nothingHappens("count", y -> y.count(13));
    }

    private static void counts(HandHeirs x, int... due) {
        for (int what = 0; what <= 12; what++) {
            Check.due("count(" + what + ")", x.count(what), due[what]);
        }
    }

    private static void manyCalls() {
        Doc.whatItIs("An object is used for at most 512 calls after it has been made;");
        HandHeirs x = new HandHeirs();
        for (int i = 1; i <= 510; i++) {
            Check.due("call " + i, x.years(1), i);
        }
        Check.due("call 511", x.undo(), true);
        Check.due("call 512", x.count(3), 509);
        // each of the 512 the dearest there is
        HandHeirs y = Check.told(SIX + "days 9; drift = (own - hand)/2;");
        for (int i = 0; i < 512 - 30; i++) {
            y.nobody();
        }
        Check.due("nothing is used up", y.count(3), 0);
    }
}
