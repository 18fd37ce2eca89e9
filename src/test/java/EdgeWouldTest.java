import java.util.function.Consumer;

/** The edges of what would be: Terms, section III up to the book, and promises 16 to 23 and 26, sentence by sentence. */
public final class EdgeWouldTest {
    private static final int NONE = HandHeirs.NONE;
    private static final String SIX_LETTERS = "letter a 50; letter b 50; letter c 50; letter d 50; letter e 50; letter f 50; ";
    private static final String SIX_HEIRS = "heir g 1 0 49 48 47 46 45 44; heir h 1 0; heir i 1 0; heir j 1 0; heir k 1 0; heir l 1 0; ";
    private static final String THREE_MASTERS = "master m = off; master n = own; master o = 5; ";
    /** The full number of letters, heirs and masters. */
    private static final String FULL = SIX_LETTERS + SIX_HEIRS + THREE_MASTERS;

    public static void main(String[] args) {
        nothingHappens();
        plans();
        alikePlans();
        plansWithoutLetters();
        needed();
        swings();
        withoutOne();
        biases();
        bestLetters();
        chances();
        firstNobody();
        Doc.termsAreQuoted("What would be (nothing happens)", "YEARS as they go.");
        promise16();
        promise17();
        promise18();
        promise19();
        promise20();
        promise21();
        promise22();
        promise23();
        promise26();
        Doc.promisesAreQuoted(16, 17, 18, 19, 20, 21, 22, 23, 26);
        Check.end();
    }

    private static void nothingHappens() {
        Doc.terms(16, "What would be (nothing happens):");
        Seen.nothingHappens("plan", x -> x.plan(0, 12));
        Seen.nothingHappens("planOf", x -> x.planOf(1, 12, 1));
        Seen.nothingHappens("needs", both(x -> x.needs(0), x -> x.needs(1)));
        Seen.nothingHappens("swing", both(x -> x.swing(0), x -> x.swing(1)));
        Seen.nothingHappens("without", both(x -> x.without(0), x -> x.without(1)));
        Seen.nothingHappens("bias", both(x -> x.bias(0, 100), x -> x.bias(1, 1)));
        Seen.nothingHappens("bestLetter", both(x -> x.bestLetter(0, 50, 0), x -> x.bestLetter(1, 50, 1)));
        Seen.nothingHappens("chance", both(x -> x.chance(0, 50), x -> x.chance(1, 1)));
        Seen.nothingHappens("nobody", HandHeirs::nobody);
        Seen.nothingHappens("refused ones", x -> {
            x.plan(0, 13);
            x.planOf(0, 1, 2);
            x.needs(2);
            x.swing(2);
            x.without(2);
            x.bias(0, 101);
            x.bestLetter(0, 51, 0);
            x.chance(0, 51);
        });
    }

    private static Consumer<HandHeirs> both(Consumer<HandHeirs> one, Consumer<HandHeirs> other) {
        return one.andThen(other);
    }

    private static void planned(HandHeirs x, int heir, int d, int sum, int... days) {
        Check.due("plan(" + heir + ", " + d + ")", x.plan(heir, d), sum);
        for (int letter = 0; letter < days.length; letter++) {
            Check.due("planOf(" + heir + ", " + d + ", " + letter + ")", x.planOf(heir, d, letter), days[letter]);
        }
    }

    private static void plans() {
        Doc.terms(16, "PLAN of an HEIR for d days (0 .. 12): numbers of days of LESSONS, one for each LETTER, d in all, now, all else as it is, "
            + "after which the sum of what he is UNLIKE to all MASTERS, TREMOR not looked at, is least:");
        HandHeirs x = Check.told(SIX_LETTERS + "heir g 1 0 49 48 47 46 45 44; master m = off;");
        planned(x, 0, 0, 21, 0, 0, 0, 0, 0, 0);
        planned(x, 0, 1, 20, 1, 0, 0, 0, 0, 0);
        planned(x, 0, 2, 19, 1, 1, 0, 0, 0, 0);
        planned(x, 0, 11, 10, 1, 2, 3, 4, 1, 0);
        planned(x, 0, 12, 9, 1, 2, 3, 4, 2, 0);
        for (int d = 0; d <= 12; d++) {
            int all = 0;
            for (int letter = 0; letter < 6; letter++) {
                all += x.planOf(0, d, letter);
            }
            Check.due("d in all", all, d);
        }
        // the sum counts, of all letters and all masters
        x = Check.told("letter a 50; letter b 50; heir g 2 0 40 40; master m = off; master n = letter*off; master o = (1 - letter)*off*off;");
        planned(x, 0, 0, 10 + 100 + 20, 0, 0);
        planned(x, 0, 1, 8 + 64 + 20, 1, 0);
        planned(x, 0, 3, 4 + 16 + 20, 3, 0);
        planned(x, 0, 4, 2 + 4 + 20, 4, 0);
        planned(x, 0, 5, 0 + 20, 5, 0);
        planned(x, 0, 6, 0 + 16, 5, 1);
        // all days are spent, though it is worse then, or nothing more is learned
        x = Check.told("letter a 50; heir g 1 0 40; master m = own;");
        planned(x, 0, 0, 40, 0);
        planned(x, 0, 9, 49, 9);
        planned(x, 0, 10, 50, 10);
        planned(x, 0, 12, 50, 12);
        x = Check.told("letter a 50; letter b 50; heir g 1 0 40 40; master m = own*(letter + 1);");
        planned(x, 0, 9, 49 + 80, 9, 0);
        planned(x, 0, 12, 50 + 80, 12, 0);
        // eyes, year and SHAPES are those of now
        x = Check.told("letter a 50; heir g 1 0 40; master m = off + 20*year + 300*worn; days 0;");
        x.years(2);
        x.lesson(0, 0, 3);
        planned(x, 0, 0, 7 + 40 + 600, 0);
        planned(x, 0, 12, 0 + 40 + 600, 12);
        x = Check.told("letter a 50; letter b 50; heir g 1 9 40 45; master m = own; seed 9999;");
        Check.due("as he writes", x.heir(0, 2), 45 + 54);
        planned(x, 0, 0, 85, 0, 0);
        planned(x, 0, 1, 86, 1, 0);
    }

    private static void alikePlans() {
        Doc.terms(17, "of alike ones the most days for LETTER 0, then for LETTER 1, and so on");
        HandHeirs x = Check.told("letter a 50; letter b 50; heir g 1 0 49 51; master m = off;");
        planned(x, 0, 1, 1, 1, 0);
        planned(x, 0, 2, 0, 1, 1);
        planned(x, 0, 3, 0, 2, 1);
        planned(x, 0, 12, 0, 11, 1);
        x = Check.told("letter a 50; letter b 50; letter c 50; heir g 1 0 50 48 52; master m = off;");
        planned(x, 0, 0, 4, 0, 0, 0);
        planned(x, 0, 1, 3, 0, 1, 0);
        planned(x, 0, 3, 1, 0, 2, 1);
        planned(x, 0, 4, 0, 0, 2, 2);
        planned(x, 0, 5, 0, 1, 2, 2);
        planned(x, 0, 12, 0, 8, 2, 2);
        // nothing changes the sum: no skill, no masters, a law that looks at nothing
        planned(Check.told("letter a 50; letter b 50; heir g 0 0 0 0; master m = off;"), 0, 12, 100, 12, 0);
        planned(Check.told("letter a 50; letter b 50; heir g 5 0 0 0;"), 0, 12, 0, 12, 0);
        planned(Check.told(SIX_LETTERS + "heir g 5 0 0 0; master m = 7;"), 0, 12, 42, 12, 0, 0, 0, 0, 0);
        // only the last letter counts
        planned(Check.told(SIX_LETTERS + "heir g 1 0 0 0 0 0 0 0; master m = if letter < 5 then 0 else off;"), 0, 12, 38, 0, 0, 0, 0, 0, 12);
        // in steps: three days for a and two for b are worth the same
        x = Check.told("letter a 50; letter b 50; heir g 10 0 20 70; master m = if off < 1 then 0 else 100;");
        planned(x, 0, 1, 200, 1, 0);
        planned(x, 0, 2, 100, 0, 2);
        planned(x, 0, 3, 100, 3, 0);
        planned(x, 0, 4, 100, 4, 0);
        planned(x, 0, 5, 0, 3, 2);
        planned(x, 0, 6, 0, 4, 2);
    }

    private static void plansWithoutLetters() {
        Doc.terms(16, "(without LETTERS d days are none).");
        HandHeirs x = Check.told("heir g 1 0; master m = 9;");
        for (int d : new int[] {0, 1, 12}) {
            Check.due("plan(0, " + d + ")", x.plan(0, d), 0);
            Check.due("planOf(0, " + d + ", 0)", x.planOf(0, d, 0), NONE);
        }
        Check.due("plan(0, 13)", x.plan(0, 13), NONE);
        Check.due("needs(0)", x.needs(0), 0);
        // what was planned with LETTERS is not looked at any more
        x = Check.told("letter a 50; heir g 1 0 40; master m = off;");
        Check.due("plan with a letter", x.plan(0, 3), 7);
        Check.due("read", Check.readText(x, "heir g 1 0; master m = 9;"), 0);
        Check.due("plan(0, 3)", x.plan(0, 3), 0);
        Check.due("plan(0, 0)", x.plan(0, 0), 0);
    }

    private static void needed() {
        Doc.terms(18, "NEEDS: the fewest days d (0 .. 12) by whose PLAN, done, he would be given the estate if it were JUDGED now.");
        for (int d = 0; d <= 14; d++) {
            HandHeirs x = Check.told("letter a 40; heir x 0 0 41; heir y 1 0 " + (40 - d) + "; master m = off;");
            Check.due("needs of one who is " + d + " off", x.needs(1), d <= 12 ? d : -2);
            Check.due("needs of the other", x.needs(0), d == 0 ? -2 : 0);
            x = Check.told("letter a 40; heir x 1 0 " + (40 - d) + "; master m = off; limit 0;");
            Check.due("needs by the limit of one who is " + d + " off", x.needs(0), d <= 12 ? d : -2);
        }
        // of two plans for one day that for a is the one, though that for b would have two votes
        Check.due("by the PLAN", Check.told("letter a 50; letter b 50; heir x 10 0 40 40; heir y 0 0 50 45;"
            + "master m = if letter < 1 then 2*off else 0; master n = letter*off; master o = letter*off;").needs(0), 2);
        // to learn is to lose it: on day 0 he has it
        Check.due("the fewest", Check.told("letter a 50; heir x 1 0 40; heir y 0 0 41; master m = own;").needs(0), 0);
        // he has it with one day alone: 42 is what is looked for, 40 and 44 are further from it than 43
        Check.due("with one day alone", Check.told("letter a 50; heir x 0 0 43; heir y 2 0 40; master m = (own - 42)*(own - 42);").needs(1), 1);
        // JUDGED as he writes: with seed 9999 that is 5 more than he has
        Check.due("with TREMOR", Check.told("letter a 40; heir x 1 9 30; heir y 0 0 45; master m = off; seed 9999;").needs(0), 0);
        Check.due("with TREMOR, 1 day", Check.told("letter a 40; heir x 1 9 30; heir y 0 0 44; master m = off; seed 9999;").needs(0), 1);
        Check.due("without TREMOR", Check.told("letter a 40; heir x 1 0 30; heir y 0 0 44; master m = off; seed 9999;").needs(0), 6);
        HandHeirs x = Check.told("letter a 40; heir x 0 0 41; heir y 1 0 20; master m = off; days 1;");
        Check.due("20 off", x.needs(1), -2);
        x.lesson(1, 0, 7);
        Check.due("13 off now", x.needs(1), -2);
        x.years(1);
        Check.due("12 off now", x.needs(1), 12);
    }

    private static void swings() {
        Doc.terms(19, "SWING of a MASTER: who would be given the estate now if he were not there (nor what one is UNLIKE to him).");
        String heirs = "letter a 0; letter b 0; heir x 0 0 5 0; heir y 0 0 0 20; ";
        String world = heirs + "master m = if letter < 1 then 100*own else 0; master n = letter*own; master o = (1 - letter)*own; ";
        HandHeirs x = Check.told(world);
        Check.due("judge", x.judge(), 1);
        Check.due("without the first: one vote each, 5 and 20", x.swing(0), 0);
        Check.due("without the second: two votes", x.swing(1), 1);
        Check.due("without the third: one vote each, 500 and 20", x.swing(2), 1);
        Check.due("he is there again", x.judge(), 1);
        Check.due("limit 5", Check.told(world + "limit 5;").swing(0), 0);
        Check.due("limit 4", Check.told(world + "limit 4;").swing(0), -2);
        Check.due("limit 0, with nothing left to be unlike", Check.told(world + "limit 0;").swing(1), 1);
        HandHeirs y = Check.told(heirs + "master m = if letter < 1 then own else 0; master n = letter*own;");
        Check.due("two masters, without the first", y.swing(0), 0);
        Check.due("two masters, without the second", y.swing(1), 1);
        Check.due("the only master", Check.told(heirs + "master m = 0;").swing(0), -2);
    }

    private static void withoutOne() {
        Doc.terms(21, "WITHOUT an HEIR: who would be given it now if he were not there.");
        String world = "letter a 50; heir x 0 0 40; heir y 0 0 45; heir z 0 0 55; master m = off; ";
        HandHeirs x = Check.told(world);
        Check.due("without the first", x.without(0), 1);
        Check.due("without the second: alike ones no more", x.without(1), 2);
        Check.due("without the last", x.without(2), 1);
        Check.due("he is there again", x.judge(), 1);
        x = Check.told("letter a 50; heir x 0 0 40; heir y 0 0 45; master m = off; limit 9;");
        Check.due("the other is above LIMIT", x.without(1), -2);
        Check.due("the other is not", x.without(0), 1);
        x = Check.told("letter a 50; heir x 0 0 40; heir y 0 0 45; master m = off; limit 10;");
        Check.due("the other is at LIMIT", x.without(1), 0);
        Check.due("the only one", Check.told("letter a 50; heir x 0 0 40; master m = off;").without(0), -2);
        Check.due("no masters", Check.told("letter a 50; heir x 0 0 40; heir y 0 0 40;").without(0), -2);
        // his votes go to others: x has one, then y and z one each, y with the greater sum
        x = Check.told("letter a 0; letter b 0; heir x 0 0 1 1; heir y 0 0 9 3; heir z 0 0 2 8; master m = if letter < 1 then own else 0;"
            + "master n = letter*own;");
        Check.due("judge", x.judge(), 0);
        Check.due("without(0)", x.without(0), 2);
    }

    private static void biases() {
        Doc.terms(22, "BIAS of a MASTER in n (1 .. 100) YEARS: in how many of them he votes for another one than is given the estate "
            + "(nobody's: any vote is).");
        String world = "letter a 50; heir x 0 0 40; heir y 0 0 45; days 0; master m = off; master o = off; ";
        HandHeirs x = Check.told(world + "master n = if year < 99 then off else own;");
        Check.due("in none of 99", x.bias(2, 99), 0);
        Check.due("in the last of 100", x.bias(2, 100), 1);
        Check.due("of the others", x.bias(0, 100), 0);
        Check.due("the hundredth year is not now", x.bias(2, 1), 0);
        x.years(99);
        Check.due("the hundredth year is now", x.bias(2, 1), 1);
        Check.due("from then on", x.bias(2, 100), 100);
        x = Check.told(world + "master n = if year < 1 then own else off;");
        Check.due("in the first of 1", x.bias(2, 1), 1);
        Check.due("in the first of 2", x.bias(2, 2), 1);
        Check.due("in the first of 100", x.bias(2, 100), 1);
        x = Check.told(world + "limit 9;");
        Check.due("nobody's", x.bias(0, 1), 1);
        Check.due("nobody's, 100 years", x.bias(1, 100), 100);
        // both vote for y, 10 unlike and more each year
        x = Check.told("letter a 50; heir x 0 0 40; heir y 0 0 45; days 0; master m = off + worn; master o = off; limit 13;");
        Check.due("at LIMIT in the fourth year", x.bias(0, 4), 0);
        Check.due("above in the fifth", x.bias(0, 5), 1);
        Check.due("likewise for the other", x.bias(1, 100), 96);
        // what heirs learn and how the hand drifts counts: x is 3, 2, 1, 0, 1, 2 off, y is 2, 3, 4 and so on
        x = Check.told("letter a 50; heir x 0 0 53; heir y 0 0 48; days 0; master m = off; master o = off; master n = own; drift = 1; limit 999;");
        Check.due("judge", x.judge(), 1);
        Check.due("own is always less with y, who has it in year 0 alone", x.bias(2, 1), 0);
        Check.due("so in the others he is biased", x.bias(2, 7), 6);
    }

    private static void bestLetters() {
        Doc.terms(23, "BEST LETTER of an HEIR in n (1 .. 50) YEARS: that which, learned on all DAYS of them instead of what he LEARNS, "
            + "gives him the estate in most of these; of alike ones the first.");
        // x is 0 off by his fiftieth lesson in b, y is 1 off all the time
        String world = "letter a 50; letter b 50; heir y 0 0 50 49; heir x 1 0 50 0; master m = letter*off; ";
        for (String learn : new String[] {"", "learn x = 0;", "learn x = 1;", "learn x = 0 - 1;"}) {
            HandHeirs x = Check.told(world + "days 1; " + learn);
            Check.due("in 49 years none: the first" + learn, x.bestLetter(1, 49, 0), 0);
            Check.due("in 49 years none" + learn, x.bestLetter(1, 49, 1), 0);
            Check.due("in 50 years one" + learn, x.bestLetter(1, 50, 0), 1);
            Check.due("in 50 years one" + learn, x.bestLetter(1, 50, 1), 1);
        }
        HandHeirs x = Check.told(world + "days 9;");
        Check.due("nine days a year: in 5 years none", x.bestLetter(1, 5, 1), 0);
        Check.due("nine days a year: in 6 years one", x.bestLetter(1, 6, 1), 1);
        Check.due("nine days a year: in 50 years", x.bestLetter(1, 50, 1), 45);
        Check.due("of the other, alike ones the first", x.bestLetter(0, 50, 0), 0);
        // x learns b by himself, so y has it five times whatever he learns
        Check.due("of the other", x.bestLetter(0, 50, 1), 5);
        x = Check.told(world + "days 0;");
        Check.due("no days", x.bestLetter(1, 50, 0), 0);
        Check.due("no days", x.bestLetter(1, 50, 1), 0);
        x = Check.told("letter a 50; letter b 50; heir x 0 0; master m = 0;");
        Check.due("one year", x.bestLetter(0, 1, 1), 1);
        Check.due("all alike", x.bestLetter(0, 1, 0), 0);
        x = Check.told(SIX_LETTERS + "heir y 0 0 50 50 50 50 50 49; heir x 1 0 50 50 50 50 50 49; master m = off; days 1;");
        Check.due("the last of six", x.bestLetter(1, 1, 0), 5);
        Check.due("the last of six", x.bestLetter(1, 1, 1), 1);
    }

    private static void chances() {
        Doc.terms(20, "CHANCE of an HEIR by n (1 .. 50): with how many of the SEEDS 0 .. n less 1 he would be given it now.");
        String world = "letter a 50; heir x 0 9 50; heir y 0 0 54; master m = off; days 0; ";
        HandHeirs x = Check.told(world + "seed 77;");
        int times = 0;
        for (int n = 1; n <= 50; n++) {
            times += Check.told(world + "seed " + (n - 1) + ";").judge() == 0 ? 1 : 0;
            Check.due("chance(0, " + n + ")", x.chance(0, n), times);
            Check.due("chance(1, " + n + ")", x.chance(1, n), n - times);
        }
        // by hand: with seeds 0, 1 and 2 LOT is 6, 3 and 14, less 9 that is 3, 6 and 5 off
        Check.due("with seed 0", x.chance(0, 1), 1);
        Check.due("with seeds 0 and 1", x.chance(0, 2), 1);
        Check.due("with seeds 0, 1 and 2", x.chance(0, 3), 1);
        Check.due("the SEED stays", x.shape(0, 0, 1), 50 + Model.lot(19, 77, 0) - 9);
        x.years(1);
        int later = 0;
        for (int seed = 0; seed < 50; seed++) {
            later += Math.abs(Model.lot(19, seed, 36) - 9) <= 4 ? 1 : 0;
        }
        Check.due("in year 1", x.chance(0, 50), later);
        Check.due("nobody's with any", Check.told(world + "limit 0; letter b 0;").chance(1, 50), 0);
        Check.due("his with any", Check.told("heir x 0 9; master m = 1;").chance(0, 50), 50);
    }

    private static void firstNobody() {
        Doc.terms(26, "NOBODY: in how many years (1 .. 200) it is nobody's for the first time, YEARS as they go.");
        String world = "letter a 50; heir x 0 0 50; days 0; ";
        Check.due("at once", Check.told(world + "master m = 1; limit 0;").nobody(), 1);
        Check.due("in the next year", Check.told(world + "master m = worn; limit 0;").nobody(), 2);
        Check.due("in 199", Check.told(world + "master m = worn; limit 197;").nobody(), 199);
        Check.due("in 200", Check.told(world + "master m = worn; limit 198;").nobody(), 200);
        Check.due("in 201", Check.told(world + "master m = worn; limit 199;").nobody(), -2);
        HandHeirs x = Check.told(world + "master m = worn; limit 199;");
        x.years(1);
        Check.due("in 200 from now", x.nobody(), 200);
        x.years(100);
        Check.due("in 100 from now", x.nobody(), 100);
        x.years(99);
        Check.due("in this year", x.nobody(), 1);
        x.years(1);
        Check.due("and from then on", x.nobody(), 1);
        Check.due("for the first time", Check.told(world + "master m = if year < 3 then 0 else if year < 4 then 9 else 0; limit 8;").nobody(), 4);
        Check.due("by drift", Check.told(world + "master m = off; drift = 3; limit 8;").nobody(), 4);
        Check.due("by what is learned", Check.told("letter a 50; heir x 1 0 0; days 1; master m = own; limit 10;").nobody(), 11);
    }

    private static void promise16() {
        Doc.promise(16, "PLAN: the least sum;");
        HandHeirs x = Check.told(FULL);
        Check.due("plan(0, 0)", x.plan(0, 0), 21 + 279 + 30);
        Check.due("plan(0, 12)", x.plan(0, 12), 9 + 291 + 30);
        Check.due("plan(5, 12)", x.plan(5, 12), 0 + 300 + 30);
        HandHeirs most = Check.told(SIX_LETTERS + "heir x 0 0; master m = 999; master n = 999; master o = 9999;");
        Check.due("the most", most.plan(0, 12), 18 * 999);
        Doc.promise(16, "NONE: no such ones.");
        Check.range("d of plan(0, ?)", 0, 12, d -> x.plan(0, d));
        Check.range("d of plan(5, ?)", 0, 12, d -> x.plan(5, d));
        Check.range("heir of plan(?, 0)", 0, 5, h -> x.plan(h, 0));
        Check.range("heir of plan(?, 12)", 0, 5, h -> x.plan(h, 12));
        Check.range("heir, one there", 0, 0, h -> most.plan(h, 1));
        Check.due("no heirs", Check.told("letter a 5; master m = 1;").plan(0, 0), NONE);
    }

    private static void promise17() {
        Doc.promise(17, "Days for a LETTER by it;");
        HandHeirs x = Check.told(FULL);
        int[] days = {12, 0, 0, 0, 0, 0};
        for (int letter = 0; letter < 6; letter++) {
            // off and own together are 50 whatever he learns: all alike
            Check.due("planOf(0, 12, " + letter + ")", x.planOf(0, 12, letter), days[letter]);
            Check.due("planOf(0, 0, " + letter + ")", x.planOf(0, 0, letter), 0);
        }
        x.plan(5, 3);
        Check.due("without that plan ahead", x.planOf(0, 1, 0), 1);
        Doc.promise(17, "NONE: no such ones.");
        Check.range("heir of planOf(?, 1, 0)", 0, 5, h -> x.planOf(h, 1, 0));
        Check.range("d of planOf(0, ?, 0)", 0, 12, d -> x.planOf(0, d, 0));
        Check.range("letter of planOf(0, 1, ?)", 0, 5, l -> x.planOf(0, 1, l));
        Check.range("letter of planOf(0, 0, ?)", 0, 5, l -> x.planOf(0, 0, l));
        HandHeirs one = Check.told("letter a 5; heir x 1 1;");
        Check.range("letter, one there", 0, 0, l -> one.planOf(0, 12, l));
        Check.due("no letters", Check.told("heir x 1 1;").planOf(0, 1, 0), NONE);
        Check.due("no heirs", Check.told("letter a 5;").planOf(0, 1, 0), NONE);
    }

    private static void promise18() {
        Doc.promise(18, "NEEDS; -2: not by 12;");
        Check.due("0", Check.told("letter a 40; heir x 1 0 40; master m = off; limit 0;").needs(0), 0);
        Check.due("1", Check.told("letter a 40; heir x 1 0 39; master m = off; limit 0;").needs(0), 1);
        Check.due("11", Check.told("letter a 40; heir x 1 0 29; master m = off; limit 0;").needs(0), 11);
        Check.due("12", Check.told("letter a 40; heir x 1 0 52; master m = off; limit 0;").needs(0), 12);
        Check.due("not by 12", Check.told("letter a 40; heir x 1 0 53; master m = off; limit 0;").needs(0), -2);
        Check.due("no masters", Check.told("letter a 40; heir x 1 0 40;").needs(0), -2);
        Doc.promise(18, "NONE: no such HEIR.");
        HandHeirs x = Check.told(FULL);
        Check.range("heir of needs", 0, 5, x::needs);
        HandHeirs one = Check.told("letter a 5; heir x 1 1;");
        Check.range("heir, one there", 0, 0, one::needs);
        Check.due("no heirs", Check.told("letter a 5; master m = 0;").needs(0), NONE);
    }

    private static void promise19() {
        Doc.promise(19, "SWING; -2: nobody;");
        HandHeirs x = Check.told(FULL);
        Check.due("swing(0)", x.swing(0), 0);
        Check.due("no heirs", Check.told("letter a 5; master m = 0; master n = 0;").swing(1), -2);
        Check.due("no other master", Check.told("letter a 5; heir x 0 0; master m = 0;").swing(0), -2);
        HandHeirs limit = Check.told("letter a 50; heir x 0 0 40; master m = off; master n = off - 1; limit 9;");
        Check.due("above LIMIT with the first alone", limit.swing(1), -2);
        Check.due("at LIMIT with the second alone", limit.swing(0), 0);
        Doc.promise(19, "NONE: no such MASTER.");
        Check.range("master of swing", 0, 2, x::swing);
        Check.range("master, two there", 0, 1, limit::swing);
        Check.due("no masters", Check.told("letter a 5; heir x 0 0;").swing(0), NONE);
        Check.due("neither", new HandHeirs().swing(0), NONE);
    }

    private static void promise20() {
        Doc.promise(20, "CHANCE;");
        HandHeirs x = Check.told(FULL);
        Check.due("chance(0, 50)", x.chance(0, 50), 50);
        Check.due("chance(1, 50)", x.chance(1, 50), 0);
        Check.due("no masters", Check.told("letter a 5; heir x 0 0;").chance(0, 50), 0);
        Doc.promise(20, "NONE: no such ones.");
        Check.range("n of chance(0, ?)", 1, 50, n -> x.chance(0, n));
        Check.range("heir of chance(?, 1)", 0, 5, h -> x.chance(h, 1));
        HandHeirs one = Check.told("letter a 5; heir x 1 1;");
        Check.range("heir, one there", 0, 0, h -> one.chance(h, 50));
        Check.due("no heirs", Check.told("letter a 5; master m = 0;").chance(0, 1), NONE);
    }

    private static void promise21() {
        Doc.promise(21, "WITHOUT; -2: nobody;");
        HandHeirs x = Check.told(FULL);
        // g is 21 off, the others are none off; to the second master g is least unlike, to the third all are alike
        Check.due("without(0)", x.without(0), 1);
        Check.due("without(1)", x.without(1), 0);
        Check.due("without(5)", x.without(5), 0);
        Check.due("the only one", Check.told("letter a 50; heir x 0 0 40; master m = off;").without(0), -2);
        Check.due("no masters", Check.told("letter a 50; heir x 0 0; heir y 0 0;").without(1), -2);
        Check.due("above LIMIT", Check.told("letter a 50; heir x 0 0; heir y 0 0 49; master m = off; limit 0;").without(0), -2);
        Doc.promise(21, "NONE: no such HEIR.");
        Check.range("heir of without", 0, 5, x::without);
        HandHeirs one = Check.told("letter a 5; heir x 1 1;");
        Check.range("heir, one there", 0, 0, one::without);
        Check.due("no heirs", Check.told("letter a 5; master m = 0;").without(0), NONE);
    }

    private static void promise22() {
        Doc.promise(22, "BIAS;");
        HandHeirs x = Check.told(FULL + "days 0;");
        Check.due("votes for the others", x.bias(0, 100), 100);
        Check.due("votes for who has it", x.bias(1, 100), 0);
        Check.due("all are alike to him", x.bias(2, 100), 0);
        Doc.promise(22, "NONE: no such ones.");
        Check.range("n of bias(0, ?)", 1, 100, n -> x.bias(0, n));
        Check.range("master of bias(?, 1)", 0, 2, m -> x.bias(m, 1));
        Check.range("master of bias(?, 100)", 0, 2, m -> x.bias(m, 100));
        HandHeirs one = Check.told("letter a 5; heir x 1 1; master m = 1;");
        Check.range("master, one there", 0, 0, m -> one.bias(m, 1));
        Check.due("no masters", Check.told("letter a 5; heir x 1 1;").bias(0, 1), NONE);
    }

    private static void promise23() {
        Doc.promise(23, "BEST LETTER: what 0 the LETTER, 1 in how many YEARS; -2: no LETTERS;");
        HandHeirs x = Check.told("letter a 50; letter b 50; heir y 0 0 50 49; heir x 1 0 50 48; master m = off; days 1;");
        Check.due("what 0", x.bestLetter(1, 9, 0), 1);
        // 1 off in year 0, which is alike, none off from then on
        Check.due("what 1", x.bestLetter(1, 9, 1), 8);
        HandHeirs none = Check.told("heir x 1 1; master m = 1;");
        Check.due("no letters, what 0", none.bestLetter(0, 1, 0), -2);
        Check.due("no letters, what 1", none.bestLetter(0, 50, 1), -2);
        Doc.promise(23, "NONE: no such ones.");
        HandHeirs full = Check.told(FULL);
        for (int what = 0; what <= 1; what++) {
            int w = what;
            Check.range("n of bestLetter(0, ?, " + w + ")", 1, 50, n -> full.bestLetter(0, n, w));
            Check.range("heir of bestLetter(?, 1, " + w + ")", 0, 5, h -> full.bestLetter(h, 1, w));
            Check.range("n without letters", 1, 50, n -> none.bestLetter(0, n, w));
            Check.range("heir without letters", 0, 0, h -> none.bestLetter(h, 1, w));
        }
        Check.range("what of bestLetter(0, 1, ?)", 0, 1, w -> full.bestLetter(0, 1, w));
        Check.range("what without letters", 0, 1, w -> none.bestLetter(0, 1, w));
        Check.due("no heirs", Check.told("letter a 5; master m = 0;").bestLetter(0, 1, 0), NONE);
        Check.due("neither", new HandHeirs().bestLetter(0, 1, 0), NONE);
    }

    private static void promise26() {
        Doc.promise(26, "NOBODY; -2: not.");
        Check.due("nothing told", new HandHeirs().nobody(), 1);
        Check.due("no masters", Check.told("letter a 5; heir x 1 1;").nobody(), 1);
        Check.due("no heirs", Check.told("letter a 5; master m = 0;").nobody(), 1);
        Check.due("not", Check.told("letter a 5; heir x 1 1; master m = 0;").nobody(), -2);
        Check.due("in 200", Check.told("letter a 5; heir x 1 1; master m = if year < 199 then 0 else 1; limit 0;").nobody(), 200);
        Check.due("not by 200", Check.told("letter a 5; heir x 1 1; master m = if year < 200 then 0 else 1; limit 0;").nobody(), -2);
    }
}
