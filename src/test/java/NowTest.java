/** Promises 6 to 11: hand, shape, heir, unlike, vote, judge. */
public final class NowTest {
    private static final String TWO_MASTERS =
        "master m = if letter < 1 then own else 0; master n = if letter < 1 then 0 else own;";

    public static void main(String[] args) {
        handsAndShapes();
        heirs();
        unlikes();
        votes();
        judged();
        nobodys();
        Check.end();
    }

    private static void handsAndShapes() {
        HandHeirs x = Check.told("heir x 5 9 30 5 77; letter a 40; letter b 2; heir y 10 3 99; seed 7;");
        Check.due("hand(0)", x.hand(0), 40);
        Check.due("hand(1)", x.hand(1), 2);
        Check.due("hand(2)", x.hand(2), -1);
        Check.due("hand(-1)", x.hand(-1), -1);
        Check.due("shape as he has it", x.shape(0, 0, 0), 30);
        Check.due("shape as he writes it", x.shape(0, 0, 1), 25);
        Check.due("off as he has it", x.shape(0, 0, 2), 10);
        Check.due("written, held to 0", x.shape(0, 1, 1), 0);
        Check.due("off above", x.shape(0, 1, 2), 3);
        Check.due("written, held to 99", x.shape(1, 0, 1), 99);
        Check.due("not told", x.shape(1, 1, 0), 50);
        Check.due("of a letter that is not there", x.shape(0, 2, 0), -1);
        Check.due("shape(0, -1, 0)", x.shape(0, -1, 0), -1);
        Check.due("shape(2, 0, 0)", x.shape(2, 0, 0), -1);
        Check.due("shape(-1, 0, 0)", x.shape(-1, 0, 0), -1);
        Check.due("shape(0, 0, 3)", x.shape(0, 0, 3), -1);
        Check.due("shape(0, 0, -1)", x.shape(0, 0, -1), -1);
    }

    private static void heirs() {
        HandHeirs x = Check.told("letter a 40; letter b 2; heir x 5 9 30 5; heir y 10 3 99 50; master m = off; master n = own; seed 7;");
        Check.due("skill", x.heir(1, 0), 10);
        Check.due("tremor", x.heir(1, 1), 3);
        Check.due("unlike to all, 0", x.heir(0, 2), 17 + 25);
        Check.due("unlike to all, 1", x.heir(1, 2), 104 + 146);
        Check.due("years had", x.heir(0, 3), 0);
        Check.due("learns", x.heir(0, 4), 0);
        Check.due("heir(0, 5)", x.heir(0, 5), -1);
        Check.due("heir(0, -1)", x.heir(0, -1), -1);
        Check.due("heir(2, 0)", x.heir(2, 0), -1);
        Check.due("heir(-1, 0)", x.heir(-1, 0), -1);
        x.years(1);
        Check.due("unlike to all in year 1", x.heir(0, 2), 8 + 34);
        Check.due("years had, 0", x.heir(0, 3), 1);
        Check.due("years had, 1", x.heir(1, 3), 0);
        x.years(2);
        Check.due("years had, 0", x.heir(0, 3), 3);
        x = Check.told("heir x 5 0; master m = 1;");
        Check.due("learns none without letters", x.heir(0, 4), -2);
        Check.due("unlike without letters", x.heir(0, 2), 0);
        x = Check.told("letter a 4; heir x 5 0;");
        Check.due("unlike without masters", x.heir(0, 2), 0);
    }

    private static void unlikes() {
        HandHeirs x = Check.told("letter a 40; letter b 2; heir x 5 9 30 5; heir y 10 3 99 50; master m = off; master n = own; seed 7;");
        Check.due("unlike(0, 0)", x.unlike(0, 0), 17);
        Check.due("unlike(0, 1)", x.unlike(0, 1), 25);
        Check.due("unlike(1, 0)", x.unlike(1, 0), 59 + 45);
        Check.due("unlike(1, 1)", x.unlike(1, 1), 99 + 47);
        Check.due("unlike(2, 0)", x.unlike(2, 0), -1);
        Check.due("unlike(0, 2)", x.unlike(0, 2), -1);
        Check.due("unlike(-1, 0)", x.unlike(-1, 0), -1);
        Check.due("unlike(0, -1)", x.unlike(0, -1), -1);
    }

    private static void votes() {
        HandHeirs x = Check.told("letter a 0; letter b 0; heir x 0 0 10 0; heir y 0 0 0 20; heir z 0 0 0 0;" + TWO_MASTERS);
        Check.due("vote for the least", x.vote(0), 1);
        Check.due("vote for the first of alike ones", x.vote(1), 0);
        Check.due("vote(2)", x.vote(2), -1);
        Check.due("vote(-1)", x.vote(-1), -1);
        Check.due("vote without heirs", Check.told("letter a 0; master m = off;").vote(0), -2);
        Check.due("no such master, no heirs", Check.told("letter a 0; master m = off;").vote(1), -1);
        Check.due("vote without letters", Check.told("heir a 1 1; heir b 1 1; master m = 1;").vote(0), 0);
    }

    private static void judged() {
        String letters = "letter a 0; letter b 0; days 0;";
        Check.due("of alike votes the least sum, 0",
            Check.told(letters + "heir x 0 0 10 0; heir y 0 0 0 20;" + TWO_MASTERS).judge(), 0);
        Check.due("of alike votes the least sum, 1",
            Check.told(letters + "heir x 0 0 10 0; heir y 0 0 0 5;" + TWO_MASTERS).judge(), 1);
        Check.due("of alike sums the first",
            Check.told(letters + "heir x 0 0 10 0; heir y 0 0 0 10;" + TWO_MASTERS).judge(), 0);
        Check.due("the most votes, though the sum is more",
            Check.told(letters + "heir x 0 0 5 0; heir y 0 0 0 20; master o = if letter < 1 then own else 0;" + TWO_MASTERS).judge(), 1);
        Check.due("the least sum of all, but no vote",
            Check.told(letters + "heir x 0 0 10 0; heir y 0 0 0 20; heir z 0 0 1 1;" + TWO_MASTERS).judge(), 0);
        Check.due("three votes for three, the least sum",
            Check.told("letter a 0; letter b 0; letter c 0; heir x 0 0 9 0 9; heir y 0 0 0 8 8; heir z 0 0 7 7 0;"
                + "master m = if letter < 1 then own else 0; master n = if letter < 2 then letter * own else 0;"
                + "master o = letter * (letter - 1) * own;").judge(), 2);
    }

    private static void nobodys() {
        String some = "letter a 0; letter b 0; heir x 0 0 10 0; heir y 0 0 0 20;" + TWO_MASTERS;
        Check.due("the sum is at the limit", Check.told(some + "limit 10;").judge(), 0);
        Check.due("the sum is above the limit", Check.told(some + "limit 9;").judge(), -2);
        Check.due("the last limit counts", Check.told(some + "limit 9; limit 10;").judge(), 0);
        Check.due("limit 0", Check.told("letter a 5; heir x 0 0 5; master m = off; limit 0;").judge(), 0);
        Check.due("no masters", Check.told("letter a 5; heir x 0 0 5;").judge(), -2);
        Check.due("no heirs", Check.told("letter a 5; master m = off;").judge(), -2);
        Check.due("no letters", Check.told("heir x 0 0 5; master m = 1; limit 0;").judge(), 0);
        Check.due("the limit that is usual is above what a sum can be there",
            Check.told("letter a 5; letter b 5; letter c 5; heir x 0 0; master m = 999; master n = 999; master o = 999;").judge(), 0);
        Check.due("a sum above 9999",
            Check.told("letter a 5; letter b 5; letter c 5; letter d 5; heir x 0 0; master m = 999; master n = 999; master o = 999;").judge(), -2);
    }
}
