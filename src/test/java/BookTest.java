/** Promises 24, 25 and 27 to 32: reign, copied, tell, forget, dated, hold, restore, count. */
public final class BookTest {
    private static final int NONE = HandHeirs.NONE;

    public static void main(String[] args) {
        reigns();
        copies();
        told();
        dates();
        holding();
        slotsAreApart();
        twoWays();
        counts();
        Check.end();
    }

    private static void reign(HandHeirs x, int most, int first, int who) {
        Check.due("reign(0) in year " + x.count(3), x.reign(0), most);
        Check.due("reign(1) in year " + x.count(3), x.reign(1), first);
        Check.due("reign(2) in year " + x.count(3), x.reign(2), who);
    }

    private static void reigns() {
        HandHeirs x = Check.told("letter a 0; heir x 0 0 0; heir y 0 0 10; days 0; master m = if year < 2 then own else "
            + "if year < 5 then 20 - own else if year < 8 then own else 20 - own;");
        reign(x, -2, -2, -2);
        Check.due("reign(3)", x.reign(3), NONE);
        Check.due("reign(-1)", x.reign(-1), NONE);
        x.years(2);
        reign(x, 2, 0, 0);
        x.years(2);
        reign(x, 2, 0, 0);
        x.years(1);
        reign(x, 3, 2, 1);
        x.years(3);
        reign(x, 3, 2, 1);
        x.years(3);
        reign(x, 3, 2, 1);
        x.years(1);
        reign(x, 4, 8, 1);
        x.undo();
        reign(x, 3, 2, 1);
        x = Check.told("letter a 0; heir x 0 0 0; limit 100; master m = if year < 2 then 0 else if year < 6 then 999 else 0;");
        x.years(8);
        reign(x, 2, 0, 0);
        x.years(1);
        reign(x, 3, 6, 0);
        x = Check.told("letter a 0; heir x 0 0 9; limit 0; master m = off; days 0;");
        x.years(3);
        reign(x, -2, -2, -2);
        Check.due("reign(3)", x.reign(3), NONE);
        // by turns: y in years 0, 2, 4 and 5
        x = Check.told("letter a 0; heir x 0 0 0; heir y 0 0 10; days 0; master m = if year < 4 then (1 - year + year / 2 * 2) * (20 - own)"
            + "+ (year - year / 2 * 2) * own else 20 - own;");
        x.years(1);
        reign(x, 1, 0, 1);
        x.years(2);
        Check.due("who was it in year 1", x.book(1, NONE), 0);
        reign(x, 1, 0, 1);
        x.years(2);
        reign(x, 1, 0, 1);
        x.years(1);
        reign(x, 2, 4, 1);
    }

    private static void copies() {
        HandHeirs x = Check.told("letter a 10; heir x 0 0 13; heir y 0 0 0; master m = off; drift = 1;");
        Check.due("now alone", x.copied(0, 0), 0);
        Check.due("now alone", x.copied(0, 1), 3);
        x.years(2);
        Check.due("now, year 2", x.copied(0, 0), 2);
        Check.due("now, 1 apart", x.copied(0, 1), 1);
        x.years(3);
        Check.due("year 3", x.copied(0, 0), 3);
        Check.due("not apart", x.copied(0, 1), 0);
        Check.due("the other", x.copied(1, 0), 0);
        Check.due("the other", x.copied(1, 1), 10);
        Check.due("copied(0, 2)", x.copied(0, 2), NONE);
        Check.due("copied(0, -1)", x.copied(0, -1), NONE);
        Check.due("copied(2, 0)", x.copied(2, 0), NONE);
        Check.due("copied(-1, 0)", x.copied(-1, 0), NONE);
        x = Check.told("letter a 10; heir x 0 0 13; master m = off; drift = 2;");
        x.years(2);
        Check.due("of alike ones the first", x.copied(0, 0), 1);
        Check.due("1 apart", x.copied(0, 1), 1);
        // all letters together, and as he has them
        x = Check.told("letter a 10; letter b 50; heir x 0 9 13 42; master m = off; days 0; drift = if letter < 1 then 1 else 0 - 4;");
        x.years(4);
        Check.due("year 2: 1 and 0", x.copied(0, 0), 2);
        Check.due("year 2: 1 and 0", x.copied(0, 1), 1);
        x = Check.told("letter a 10; letter b 50; letter c 30; heir x 0 0 10 42 31; master m = off;");
        Check.due("all letters now", x.copied(0, 1), 9);
        Check.due("no letters", copiedWithoutLetters(), 0);
    }

    private static int copiedWithoutLetters() {
        HandHeirs x = Check.told("heir x 0 0; master m = 1;");
        x.years(3);
        Check.due("how far without letters", x.copied(0, 1), 0);
        return x.copied(0, 0);
    }

    private static void told() {
        HandHeirs x = Check.told("letter a 10; letter b 20;");
        Check.due("tell(2, 0)", x.tell(2, 0), NONE);
        Check.due("tell(-1, 0)", x.tell(-1, 0), NONE);
        Check.due("tell(0, 100)", x.tell(0, 100), NONE);
        Check.due("tell(0, -1)", x.tell(0, -1), NONE);
        Check.due("nothing happened", x.count(11), 0);
        for (int i = 0; i < 20; i++) {
            Check.due("tell " + i, x.tell(i % 2, i == 0 ? 0 : 99), i);
        }
        Check.due("a 21st", x.tell(0, 0), NONE);
        Check.due("there are", x.count(11), 20);
        x.years(1);
        x.undo();
        Check.due("undo does not change it", x.count(11), 20);
        Check.due("forget", x.forget(), 20);
        Check.due("forget again", x.forget(), 0);
        Check.due("there are", x.count(11), 0);
        Check.due("tell again", x.tell(1, 5), 0);
        Check.due("tell without letters", new HandHeirs().tell(0, 0), NONE);
    }

    private static void dates() {
        HandHeirs x = Check.told("letter a 10; letter b 50; heir x 0 0 10; master m = off; drift = 1 - letter;");
        Check.due("now, nothing known", x.dated(0, 0, NONE), 1);
        x.years(3);
        x.tell(0, 11);
        Check.due("dated(0, 1, NONE)", x.dated(0, 1, NONE), 1);
        Check.due("dated(0, 1, 0)", x.dated(0, 1, 0), 1);
        Check.due("dated(0, 1, 1)", x.dated(0, 1, 1), NONE);
        Check.due("dated(1, 1, NONE)", x.dated(1, 1, NONE), 3);
        Check.due("dated(1, 1, 0)", x.dated(1, 1, 0), 0);
        Check.due("dated(1, 1, 2)", x.dated(1, 1, 2), 2);
        Check.due("dated(1, 1, 3)", x.dated(1, 1, 3), NONE);
        Check.due("dated(2, 1, 3): now", x.dated(2, 1, 3), 3);
        Check.due("dated(99, 0, NONE)", x.dated(99, 0, NONE), 4);
        Check.due("dated(0, 0, 3)", x.dated(0, 0, 3), 3);
        Check.due("dated(0, 2, NONE): not so many told", x.dated(0, 2, NONE), NONE);
        Check.due("dated(0, -1, NONE)", x.dated(0, -1, NONE), NONE);
        Check.due("dated(100, 0, NONE)", x.dated(100, 0, NONE), NONE);
        Check.due("dated(-1, 0, NONE)", x.dated(-1, 0, NONE), NONE);
        Check.due("dated(0, 0, -2)", x.dated(0, 0, -2), NONE);
        x.tell(0, 13);
        Check.due("each no more than t apart", x.dated(1, 2, NONE), 1);
        Check.due("each no more than t apart", x.dated(1, 2, 0), 2);
        Check.due("the first alone", x.dated(1, 1, NONE), 3);
        x.tell(1, 60);
        Check.due("none", x.dated(9, 3, NONE), 0);
        Check.due("none", x.dated(9, 3, 0), NONE);
        Check.due("all", x.dated(10, 3, NONE), 4);
        x.undo();
        Check.due("the book is gone back", x.dated(10, 3, NONE), 1);
        x.forget();
        Check.due("forgotten", x.dated(10, 1, NONE), NONE);
    }

    private static void holding() {
        HandHeirs x = Check.told("letter a 40; heir x 5 0 30; heir y 0 0 36; master m = off; drift = 1; days 1;");
        Check.due("restore(0)", x.restore(0), false);
        Check.due("hold(3)", x.hold(3), false);
        Check.due("hold(-1)", x.hold(-1), false);
        Check.due("restore(3)", x.restore(3), false);
        Check.due("restore(-1)", x.restore(-1), false);
        x.years(2);
        x.tell(0, 7);
        Check.due("hold(1)", x.hold(1), true);
        Check.due("it can still be undone", x.count(10), 1);
        Check.due("restore(0)", x.restore(0), false);
        Check.due("nothing happened", x.count(10), 1);
        x.years(5);
        x.lesson(0, 0, 3);
        x.tell(0, 8);
        Check.due("restore(1)", x.restore(1), true);
        Check.due("year", x.count(3), 2);
        Check.due("eyes", x.count(5), 2);
        Check.due("in the book", x.count(8), 2);
        Check.due("hand", x.hand(0), 42);
        Check.due("shape", x.shape(0, 0, 0), 40);
        Check.due("who has it", x.count(4), 0);
        Check.due("years had", x.heir(0, 3), 1);
        Check.due("years had", x.heir(1, 3), 1);
        Check.due("book(0, NONE)", x.book(0, NONE), 1);
        Check.due("book(1, 0)", x.book(1, 0), 41);
        Check.due("book(2, 0)", x.book(2, 0), NONE);
        Check.due("told is as it was", x.count(11), 2);
        Check.due("nothing can be undone", x.count(10), 0);
        Check.due("undo", x.undo(), false);
        Check.due("it goes on", x.years(3), 5);
        Check.due("undo goes back to it", x.undo(), true);
        Check.due("year", x.count(3), 2);
        x.years(9);
        Check.due("it stays there", x.restore(1), true);
        Check.due("year", x.count(3), 2);
        Check.due("a fault leaves it", Check.readText(x, "letter"), 1);
        Check.due("restore(1)", x.restore(1), true);
        Check.due("a new text does not", Check.readText(x, "letter a 1;"), 0);
        Check.due("restore(1)", x.restore(1), false);
    }

    private static void slotsAreApart() {
        HandHeirs x = Check.told("letter a 40; heir x 0 0 30; heir y 0 0 45; days 0; drift = if year < 3 then 1 else 2; master m = off;");
        x.hold(0);
        x.years(3);
        x.hold(1);
        x.years(3);
        x.hold(2);
        Check.due("hands", x.hand(0), 49);
        Check.due("slots", x.count(12), 3);
        x.restore(1);
        Check.due("hand of slot 1", x.hand(0), 43);
        Check.due("book of slot 1", x.count(8), 3);
        x.restore(0);
        Check.due("hand of slot 0", x.hand(0), 40);
        Check.due("book of slot 0", x.book(0, 0), NONE);
        x.lesson(1, 0, 1);
        x.years(1);
        x.restore(2);
        Check.due("hand of slot 2", x.hand(0), 49);
        for (int year = 0; year < 6; year++) {
            Check.due("book(" + year + ", 0)", x.book(year, 0), new int[] {40, 41, 42, 43, 45, 47}[year]);
            Check.due("book(" + year + ", NONE)", x.book(year, NONE), 1);
        }
        x.restore(0);
        Check.due("hold over what is held", x.hold(2), true);
        x.years(4);
        x.restore(2);
        Check.due("year of slot 2 now", x.count(3), 0);
        Check.due("slots", x.count(12), 3);
    }

    /** Two ways on from one slot: each has its own book. */
    private static void twoWays() {
        HandHeirs x = Check.told("letter a 40; letter b 40; letter c 40; heir x 9 0 20 20 20; heir y 9 0 30 30 30; heir z 9 0 30 31 30;"
            + "heir u 9 0 9 9 9; days 0; drift = (own - hand) / 5; master m = off;");
        x.years(1);
        x.hold(0);
        x.years(2);
        x.hold(1);
        x.restore(0);
        for (int letter = 0; letter < 3; letter++) {
            x.lesson(3, letter, 4);
        }
        x.years(3);
        x.hold(2);
        Check.due("who, on the way with lessons", x.book(1, NONE), 3);
        Check.due("hand, on the way with lessons", x.book(3, 2), 38);
        x.restore(1);
        Check.due("year", x.count(3), 3);
        Check.due("who, year 1", x.book(1, NONE), 2);
        Check.due("who, year 2", x.book(2, NONE), 2);
        Check.due("hand, year 1", x.book(1, 1), 39);
        Check.due("hand, year 2", x.book(2, 2), 37);
        Check.due("shape of the last heir", x.shape(3, 2, 0), 9);
        x.restore(2);
        Check.due("shape of the last heir", x.shape(3, 2, 0), 38);
        Check.due("who, year 1", x.book(1, NONE), 3);
        Check.due("who, year 3", x.book(3, NONE), 3);
        x.lesson(3, 1, 1);
        x.years(1);
        x.undo();
        x.undo();
        Check.due("undone behind a restore", x.shape(3, 1, 0), 39);
        Check.due("nothing more", x.undo(), false);
    }

    private static void counts() {
        HandHeirs x = Check.told("letter a 40; letter b 1; letter c 1; heir x 0 0 30; heir y 0 0 45; master m = off; days 7; limit 77; seed 5;");
        x.years(4);
        x.lesson(0, 0, 1);
        x.tell(0, 1);
        x.tell(0, 1);
        x.tell(0, 1);
        x.hold(0);
        x.hold(2);
        x.feed(1, 2, 3, 4, 5);
        x.back(3);
        int[] due = {3, 2, 1, 4, -2, 4, 7, 77, 4, 17, 2, 3, 2};
        for (int what = 0; what < due.length; what++) {
            Check.due("count(" + what + ")", x.count(what), due[what]);
        }
        Check.due("count(13)", x.count(13), NONE);
        Check.due("count(-1)", x.count(-1), NONE);
        Check.due("who has it", ownedBy(), 1);
    }

    private static int ownedBy() {
        HandHeirs x = Check.told("letter a 40; heir x 0 0 30; heir y 0 0 45; master m = off; days 0;");
        x.years(1);
        return x.count(4);
    }
}
