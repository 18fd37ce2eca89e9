/** Promises 12 to 15: lesson, years, undo, book. */
public final class DoneTest {
    private static final int NONE = HandHeirs.NONE;

    public static void main(String[] args) {
        lessons();
        years();
        order();
        undoing();
        undoingManyThings();
        theBook();
        allThatABookCanHold();
        afterWrongShapes();
        moreThanTheBookHolds();
        Check.end();
    }

    private static void lessons() {
        HandHeirs x = Check.told("letter a 40; letter b 70; heir x 7 0 30 99; heir y 0 0 1 1;");
        Check.due("a lesson from below", x.lesson(0, 0, 1), 3);
        Check.due("shape", x.shape(0, 0, 0), 37);
        Check.due("no further than the hand", x.lesson(0, 0, 1), 0);
        Check.due("shape", x.shape(0, 0, 0), 40);
        Check.due("lessons from above", x.lesson(0, 1, 3), 8);
        Check.due("shape", x.shape(0, 1, 0), 78);
        Check.due("99 lessons", x.lesson(0, 1, 99), 0);
        Check.due("shape", x.shape(0, 1, 0), 70);
        Check.due("no skill", x.lesson(1, 0, 99), 39);
        Check.due("things done", x.count(10), 5);
        Check.due("lesson(0, 0, 0)", x.lesson(0, 0, 0), NONE);
        Check.due("lesson(0, 0, 100)", x.lesson(0, 0, 100), NONE);
        Check.due("lesson(0, 0, -1)", x.lesson(0, 0, -1), NONE);
        Check.due("lesson(2, 0, 1)", x.lesson(2, 0, 1), NONE);
        Check.due("lesson(-1, 0, 1)", x.lesson(-1, 0, 1), NONE);
        Check.due("lesson(0, 2, 1)", x.lesson(0, 2, 1), NONE);
        Check.due("lesson(0, -1, 1)", x.lesson(0, -1, 1), NONE);
        Check.due("things done", x.count(10), 5);
        Check.due("the year", x.count(3), 0);
    }

    private static void years() {
        HandHeirs x = Check.told("letter a 40; letter b 2; heir x 5 0 30 5; heir y 10 0 99 50; master m = off; drift = 1;");
        Check.due("years(0)", x.years(0), 0);
        Check.due("is no thing done", x.count(10), 0);
        Check.due("years(-1)", x.years(-1), NONE);
        Check.due("years(101)", x.years(101), NONE);
        Check.due("nothing happened", x.count(10) + x.count(3) + x.count(5), 0);
        Check.due("years(1)", x.years(1), 1);
        // x: a 35, a 40, b 2; y: a 89, a 79, b 40
        Check.due("x, a", x.shape(0, 0, 0), 40);
        Check.due("x, b", x.shape(0, 1, 0), 2);
        Check.due("y, a", x.shape(1, 0, 0), 79);
        Check.due("y, b", x.shape(1, 1, 0), 40);
        Check.due("hand, a", x.hand(0), 41);
        Check.due("hand, b", x.hand(1), 3);
        Check.due("eyes", x.count(5), 1);
        Check.due("who has it", x.count(4), 0);
        Check.due("in the book", x.count(8), 1);
        Check.due("years(100)", x.years(100), 101);
        Check.due("hand, a", x.hand(0), 99);
        Check.due("hand, b", x.hand(1), 99);
        Check.due("two things done", x.count(10), 2);
        Check.due("years(0) later", x.years(0), 101);
        x = new HandHeirs();
        Check.due("years of nothing", x.years(7), 7);
        Check.due("eyes", x.count(5), 7);
        Check.due("nobody", x.count(4), -2);
        x = Check.told("letter a 40; heir x 5 0 30; master m = off; days 0;");
        x.years(5);
        Check.due("no days, no lessons", x.shape(0, 0, 0), 30);
    }

    /** Judged by eyes worn before that year, drift by the hand and shapes after its lessons. */
    private static void order() {
        HandHeirs x = Check.told("letter a 50; heir x 5 0 40; heir y 0 0 47; master m = off * (2 - worn); drift = own - hand; days 1;");
        x.years(1);
        Check.due("after its lesson x is 5 off, y 3", x.count(4), 1);
        Check.due("the hand goes to y", x.hand(0), 47);
        x.years(1);
        Check.due("x is 0 off by then, and the first", x.count(4), 0);
        Check.due("the hand stays with x", x.hand(0), 47);
        x = Check.told("letter a 50; heir x 5 0 40; master m = worn; limit 0; drift = 1;");
        x.years(1);
        Check.due("in year 0 eyes are not worn", x.count(4), 0);
        x.years(1);
        Check.due("in year 1 they are", x.count(4), -2);
        Check.due("it drifted once", x.hand(0), 51);
        Check.due("years had", x.heir(0, 3), 1);
        // the heirs learn one by one on each day, by their own shapes
        x = Check.told("letter a 50; letter b 50; heir x 10 0 20 35; heir y 10 0 35 20; days 2;");
        x.years(1);
        Check.due("x, a", x.shape(0, 0, 0), 40);
        Check.due("x, b", x.shape(0, 1, 0), 35);
        Check.due("y, a", x.shape(1, 0, 0), 35);
        Check.due("y, b", x.shape(1, 1, 0), 40);
    }

    private static void undoing() {
        HandHeirs x = Check.told("letter a 40; heir x 5 0 30; heir y 0 0 36; master m = off; drift = 1; days 1;");
        Check.due("nothing to undo", x.undo(), false);
        x.lesson(0, 0, 1);
        x.years(1);
        x.years(2);
        Check.due("hand", x.hand(0), 43);
        Check.due("undo years(2)", x.undo(), true);
        Check.due("year", x.count(3), 1);
        Check.due("eyes", x.count(5), 1);
        Check.due("book", x.count(8), 1);
        Check.due("book(1, NONE)", x.book(1, NONE), NONE);
        Check.due("hand", x.hand(0), 41);
        Check.due("shape", x.shape(0, 0, 0), 40);
        Check.due("years had", x.heir(0, 3), 1);
        Check.due("undo years(1)", x.undo(), true);
        Check.due("year", x.count(3), 0);
        Check.due("who has it", x.count(4), -2);
        Check.due("years had", x.heir(0, 3), 0);
        Check.due("hand", x.hand(0), 40);
        Check.due("shape", x.shape(0, 0, 0), 35);
        Check.due("undo the lesson", x.undo(), true);
        Check.due("shape", x.shape(0, 0, 0), 30);
        Check.due("nothing more", x.undo(), false);
        x.years(3);
        Check.due("who has it in year 0", x.book(0, NONE), 1);
        Check.due("undone", x.undo(), true);
        x.lesson(0, 0, 2);
        x.years(3);
        Check.due("who has it in year 0 instead", x.book(0, NONE), 0);
        // what is told, held or fed is no thing done
        x.tell(0, 5);
        x.hold(0);
        x.feed(0, 0, 0, 0, 0);
        Check.due("undone", x.undo(), true);
        Check.due("told", x.count(11), 1);
        Check.due("held", x.count(12), 1);
        Check.due("tape", x.count(9), 20);
        Check.due("things left", x.count(10), 1);
    }

    private static void undoingManyThings() {
        HandHeirs x = Check.told("letter a 99; heir x 1 0 0;");
        for (int i = 1; i <= 35; i++) {
            x.lesson(0, 0, 1);
            Check.due("things after " + i, x.count(10), Math.min(i, 30));
        }
        for (int i = 1; i <= 12; i++) {
            Check.due("undo " + i, x.undo(), true);
            Check.due("shape", x.shape(0, 0, 0), 35 - i);
        }
        for (int i = 1; i <= 25; i++) {
            x.lesson(0, 0, 2);
        }
        Check.due("things", x.count(10), 30);
        for (int i = 1; i <= 30; i++) {
            Check.due("undo " + i, x.undo(), true);
            Check.due("shape", x.shape(0, 0, 0), i <= 25 ? 23 + 2 * (25 - i) : 23 - (i - 25));
        }
        Check.due("no 31st", x.undo(), false);
        Check.due("shape", x.shape(0, 0, 0), 18);
    }

    private static void theBook() {
        HandHeirs x = Check.told("letter a 40; letter b 90; heir x 5 0 30 90; heir y 0 0 36 90; master m = off; drift = 1 + letter;"
            + "days 1; limit 6;");
        x.years(3);
        int[] a = {40, 41, 42};
        int[] b = {90, 92, 94};
        int[] who = {1, 0, 0};
        for (int year = 0; year < 3; year++) {
            Check.due("book(" + year + ", 0)", x.book(year, 0), a[year]);
            Check.due("book(" + year + ", 1)", x.book(year, 1), b[year]);
            Check.due("book(" + year + ", NONE)", x.book(year, NONE), who[year]);
        }
        Check.due("book(3, 0)", x.book(3, 0), NONE);
        Check.due("book(3, NONE)", x.book(3, NONE), NONE);
        Check.due("book(-1, 0)", x.book(-1, 0), NONE);
        Check.due("book(0, 2)", x.book(0, 2), NONE);
        Check.due("book(0, -2)", x.book(0, -2), NONE);
        x = Check.told("letter a 40; heir x 0 0 30; master m = off; limit 5;");
        x.years(1);
        Check.due("nobody in the book", x.book(0, NONE), -2);
    }

    /** Six letters from 0 to 99, each of six heirs in his turn, then nobody: a year's page is as full as can be. */
    private static void allThatABookCanHold() {
        HandHeirs x = Check.told("letter a 0; letter b 99; letter c 1; letter d 98; letter e 50; letter f 99; heir g 0 0 0;"
            + "heir h 0 0 10; heir i 0 0 20; heir j 0 0 30; heir k 0 0 40; heir l 0 0 50; days 0; limit 100; drift = 1 - letter;"
            + "master m = if letter < 1 then (own - year * 10) * (own - year * 10) else 0;");
        x.years(9);
        int[] first = {0, 99, 1, 98, 50, 99};
        int[] who = {0, 1, 2, 3, 4, 5, 5, -2, -2};
        for (int year = 0; year < 9; year++) {
            Check.due("full: book(" + year + ", NONE)", x.book(year, NONE), who[year]);
            int drifts = Math.min(year, 7);
            for (int letter = 0; letter < 6; letter++) {
                int shape = Math.max(0, Math.min(99, first[letter] + drifts * (1 - letter)));
                Check.due("full: book(" + year + ", " + letter + ")", x.book(year, letter), shape);
            }
        }
    }

    /** What a text with a FAULT told is not seen in the book of the next one. */
    private static void afterWrongShapes() {
        HandHeirs x = new HandHeirs();
        String wrong = "letter a 9999; letter b 9999; letter c 9999; letter d 9999; letter e 9999; letter f 9999;";
        String sound = "letter a 40; heir x 0 0 40; heir y 0 0 41; master m = off;";
        for (int i = 0; i < 3; i++) {
            Check.due("a text with shapes that are none", Check.readText(x, wrong), 5);
            Check.due("a sound text", Check.readText(x, sound), 0);
            x.years(2);
            Check.due("hand", x.book(1, 0), 40);
            Check.due("who", x.book(1, NONE), 0);
            Check.due("reign", x.reign(0), 2);
        }
    }

    private static void moreThanTheBookHolds() {
        HandHeirs x = Check.told("letter a 50; heir x 0 0 50; heir y 0 0 60; days 0; drift = if year < 399 then 0 else 1;"
            + "master m = if year < 400 then own else 99 - own;");
        for (int i = 1; i <= 5; i++) {
            x.years(100);
        }
        Check.due("year", x.count(3), 500);
        Check.due("eyes", x.count(5), 500);
        Check.due("in the book", x.count(8), 400);
        Check.due("book(399, 0)", x.book(399, 0), 50);
        Check.due("book(399, NONE)", x.book(399, NONE), 0);
        Check.due("book(400, 0)", x.book(400, 0), NONE);
        Check.due("who has it", x.count(4), 1);
        Check.due("years had, within", x.heir(0, 3), 400);
        Check.due("years had, beyond", x.heir(1, 3), 100);
        Check.due("hand", x.hand(0), 99);
        Check.due("reign", x.reign(0), 400);
        x.tell(0, 99);
        Check.due("dated: now", x.dated(0, 1, 0), 500);
        Check.due("dated: now alone", x.dated(0, 1, NONE), 1);
        x.lesson(0, 0, 1);
        Check.due("copied: the first", x.copied(0, 0), 0);
        Check.due("undo", x.undo(), true);
        Check.due("undo", x.undo(), true);
        Check.due("year", x.count(3), 400);
        Check.due("in the book", x.count(8), 400);
        Check.due("undo", x.undo(), true);
        Check.due("in the book", x.count(8), 300);
    }
}
