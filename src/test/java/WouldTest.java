/** Promises 16 to 23 and 26: plan, planOf, needs, swing, chance, without, bias, bestLetter, nobody. */
public final class WouldTest {
    private static final int NONE = HandHeirs.NONE;

    public static void main(String[] args) {
        plans();
        plansThatAreOdd();
        needed();
        swings();
        chances();
        withoutOne();
        biases();
        bestLetters();
        firstNobody();
        Check.end();
    }

    private static void planned(HandHeirs x, int heir, int d, int sum, int... days) {
        Check.due("plan(" + heir + ", " + d + ")", x.plan(heir, d), sum);
        for (int letter = 0; letter < days.length; letter++) {
            Check.due("planOf(" + heir + ", " + d + ", " + letter + ")", x.planOf(heir, d, letter), days[letter]);
        }
    }

    private static void plans() {
        HandHeirs x = Check.told("letter a 40; letter b 60; heir x 5 0 30 60; heir y 10 0 45 90; master m = off;"
            + "master n = off * (letter + 1);");
        planned(x, 1, 0, 100, 0, 0);
        planned(x, 1, 1, 70, 0, 1);
        planned(x, 1, 2, 40, 0, 2);
        planned(x, 1, 3, 10, 0, 3);
        planned(x, 1, 4, 0, 1, 3);
        planned(x, 1, 5, 0, 2, 3);
        planned(x, 1, 12, 0, 9, 3);
        planned(x, 0, 2, 0, 2, 0);
        x.plan(0, 0);
        Check.due("planOf without plan ahead", x.planOf(1, 4, 1), 3);
        Check.due("plan(1, 13)", x.plan(1, 13), NONE);
        Check.due("plan(1, -1)", x.plan(1, -1), NONE);
        Check.due("plan(2, 1)", x.plan(2, 1), NONE);
        Check.due("plan(-1, 1)", x.plan(-1, 1), NONE);
        Check.due("planOf(1, 1, 2)", x.planOf(1, 1, 2), NONE);
        Check.due("planOf(1, 1, -1)", x.planOf(1, 1, -1), NONE);
        Check.due("planOf(1, 13, 0)", x.planOf(1, 13, 0), NONE);
        Check.due("planOf(1, -1, 0)", x.planOf(1, -1, 0), NONE);
        Check.due("planOf(2, 1, 0)", x.planOf(2, 1, 0), NONE);
        Check.due("nothing happened", x.shape(1, 1, 0) + x.count(10), 90);
    }

    private static void plansThatAreOdd() {
        // to come nearer may be worse, but the days must be spent
        HandHeirs x = Check.told("letter a 50; letter b 99; heir x 10 0 50 20; master m = own;");
        planned(x, 0, 3, 70, 3, 0);
        x = Check.told("letter b 99; heir x 10 0 20; master m = own;");
        planned(x, 0, 3, 50, 3);
        // steps: a needs 3 days, b 2
        x = Check.told("letter a 50; letter b 50; heir x 10 0 20 70; master m = if off < 5 then 0 else 100;");
        planned(x, 0, 1, 200, 1, 0);
        planned(x, 0, 2, 100, 0, 2);
        planned(x, 0, 3, 100, 3, 0);
        planned(x, 0, 4, 100, 4, 0);
        planned(x, 0, 5, 0, 3, 2);
        planned(x, 0, 6, 0, 4, 2);
        // alike all over: the first letters have the most
        x = Check.told("letter a 50; letter b 50; letter c 50; heir x 10 0 40 40 40; master m = off;");
        planned(x, 0, 2, 10, 1, 1, 0);
        planned(x, 0, 1, 20, 1, 0, 0);
        planned(x, 0, 7, 0, 5, 1, 1);
        x = Check.told("letter a 50; letter b 50; letter c 50; heir x 10 0 40 30 40; master m = off;");
        planned(x, 0, 3, 10, 1, 2, 0);
        // trembling is not looked at, eyes and year are as they are
        x = Check.told("letter a 50; letter b 50; heir x 10 9 20 20; master m = off + 10 * worn + year; seed 7; days 0;");
        planned(x, 0, 0, 60, 0, 0);
        x.years(2);
        planned(x, 0, 1, 50 + 44, 1, 0);
        // no masters, no letters
        planned(Check.told("letter a 1; letter b 1; heir x 1 1;"), 0, 12, 0, 12, 0);
        planned(Check.told("heir x 1 1; master m = 1;"), 0, 12, 0);
        Check.due("planOf without letters", Check.told("heir x 1 1; master m = 1;").planOf(0, 3, 0), NONE);
        planned(Check.told("letter a 1; letter b 1; letter c 1; letter d 1; letter e 1; letter f 1; heir x 99 0 0 0 0 0 0 0;"
            + "master m = off * (letter + 1); master n = 999; master o = 9999;"), 0, 5, 12 * 999 + 1, 0, 1, 1, 1, 1, 1);
    }

    private static void needed() {
        HandHeirs x = Check.told("letter a 40; letter b 60; heir x 5 0 30 60; heir y 10 0 45 90; master m = off;"
            + "master n = off * (letter + 1); limit 60;");
        Check.due("who has it has need of none", x.needs(0), 0);
        Check.due("needs(1)", x.needs(1), 3);
        Check.due("needs(2)", x.needs(2), NONE);
        Check.due("needs(-1)", x.needs(-1), NONE);
        Check.due("nothing happened", x.shape(1, 1, 0) + x.count(10), 90);
        Check.due("no skill", Check.told("letter a 40; heir x 0 0 30; heir y 0 0 31; master m = off;").needs(0), -2);
        Check.due("12 days", Check.told("letter a 40; heir x 0 0 41; heir y 1 0 28; master m = off;").needs(1), 12);
        Check.due("13 would be one too many", Check.told("letter a 40; heir x 0 0 41; heir y 1 0 27; master m = off;").needs(1), -2);
        Check.due("by the limit", Check.told("letter a 40; heir x 1 0 30; master m = off; limit 4;").needs(0), 6);
        Check.due("no masters", Check.told("letter a 40; heir x 1 0 30;").needs(0), -2);
        Check.due("no letters", Check.told("heir x 1 0 30; master m = off;").needs(0), 0);
        // judged as he writes: 30 less 5 is 15 off, with a day more 10 off
        Check.due("trembling", Check.told("letter a 40; heir x 5 9 30; heir y 0 0 50; master m = off; seed 7;").needs(0), 1);
        Check.due("no trembling", Check.told("letter a 40; heir x 5 0 30; heir y 0 0 50; master m = off; seed 7;").needs(0), 0);
        // of two plans for one day that for a is the one, though that for b would have two votes
        Check.due("by its plan", Check.told("letter a 50; letter b 50; heir x 10 0 40 40; heir y 0 0 50 45;"
            + "master m = if letter < 1 then 2 * off else 0; master n = letter * off; master o = letter * off;").needs(0), 2);
    }

    private static void swings() {
        String world = "letter a 0; letter b 0; heir x 0 0 5 0; heir y 0 0 0 20; master m = if letter < 1 then own else 0;"
            + "master n = if letter < 1 then 0 else own; master o = if letter < 1 then own else 0;";
        HandHeirs x = Check.told(world);
        Check.due("judge", x.judge(), 1);
        Check.due("swing(0)", x.swing(0), 0);
        Check.due("swing(1)", x.swing(1), 1);
        Check.due("swing(2)", x.swing(2), 0);
        Check.due("swing(3)", x.swing(3), NONE);
        Check.due("swing(-1)", x.swing(-1), NONE);
        x = Check.told(world + "limit 15;");
        Check.due("judge", x.judge(), -2);
        Check.due("nor what one is unlike to him", x.swing(1), 1);
        Check.due("swing(0)", x.swing(0), 0);
        x = Check.told(world + "limit 4;");
        Check.due("nobody", x.swing(0), -2);
        Check.due("the only master", Check.told("letter a 0; heir x 0 0; master m = 0;").swing(0), -2);
        Check.due("no heirs", Check.told("letter a 0; master m = 0; master n = 0;").swing(0), -2);
    }

    private static void chances() {
        HandHeirs x = Check.told("letter a 40; heir x 5 9 40; heir y 0 0 46; master m = off; seed 3;");
        Check.due("judge with seed 3", x.judge(), 1);
        int[] of = {1, 2, 3, 3, 3, 3, 4, 5, 6, 6, 6, 7};
        for (int n = 1; n <= 12; n++) {
            Check.due("chance(0, " + n + ")", x.chance(0, n), of[n - 1]);
            Check.due("chance(1, " + n + ")", x.chance(1, n), n - of[n - 1]);
        }
        Check.due("chance(0, 50) and the rest", x.chance(0, 50) + x.chance(1, 50), 50);
        Check.due("chance(0, 0)", x.chance(0, 0), NONE);
        Check.due("chance(0, 51)", x.chance(0, 51), NONE);
        Check.due("chance(2, 1)", x.chance(2, 1), NONE);
        Check.due("chance(-1, 1)", x.chance(-1, 1), NONE);
        Check.due("the seed stays", x.judge(), 1);
        Check.due("chance of none", Check.told("letter a 4; heir x 1 1;").chance(0, 9), 0);
    }

    private static void withoutOne() {
        HandHeirs x = Check.told("letter a 40; heir x 5 0 40; heir y 0 0 46; heir z 0 0 30; master m = off;");
        Check.due("without(0)", x.without(0), 1);
        Check.due("without(1)", x.without(1), 0);
        Check.due("without(2)", x.without(2), 0);
        Check.due("without(3)", x.without(3), NONE);
        Check.due("without(-1)", x.without(-1), NONE);
        x = Check.told("letter a 40; heir x 5 0 40; heir y 0 0 46; master m = off; limit 5;");
        Check.due("the other is above the limit", x.without(0), -2);
        Check.due("the only one", Check.told("letter a 40; heir x 5 0 40; master m = off;").without(0), -2);
        Check.due("no masters", Check.told("letter a 40; heir x 5 0 40; heir y 5 0 40;").without(0), -2);
        // votes of those who voted for him go to others: x has one vote and least, y and z then one each
        x = Check.told("letter a 0; letter b 0; heir x 0 0 1 1; heir y 0 0 9 3; heir z 0 0 2 8; master m = if letter < 1 then own else 0;"
            + "master n = if letter < 1 then 0 else own;");
        Check.due("judge", x.judge(), 0);
        Check.due("without(0)", x.without(0), 2);
        // the others keep their numbers, by which they tremble
        x = Check.told("letter a 40; letter b 40; heir x 0 0 40 40; heir y 0 3 40 40; heir z 0 0 42 42; master m = off; seed 7;");
        Check.due("y is 1 and 3 off", x.unlike(1, 0), 4);
        Check.due("without(0)", x.without(0), 1);
    }

    private static void biases() {
        String world = "letter a 40; heir x 0 0 40; heir y 0 0 0; master m = off; days 0;";
        HandHeirs x = Check.told(world + "master n = own;");
        Check.due("judge", x.judge(), 0);
        Check.due("bias(0, 10)", x.bias(0, 10), 0);
        Check.due("bias(1, 10)", x.bias(1, 10), 10);
        Check.due("bias(1, 100)", x.bias(1, 100), 100);
        Check.due("bias(1, 1)", x.bias(1, 1), 1);
        Check.due("bias(1, 101)", x.bias(1, 101), NONE);
        Check.due("bias(1, 0)", x.bias(1, 0), NONE);
        Check.due("bias(2, 1)", x.bias(2, 1), NONE);
        Check.due("bias(-1, 1)", x.bias(-1, 1), NONE);
        x = Check.told(world + "master n = own; limit 39;");
        Check.due("nobody's: any vote is", x.bias(0, 10), 10);
        Check.due("nobody's: any vote is", x.bias(1, 10), 10);
        x = Check.told(world + "master n = if year < 3 then own else off;");
        Check.due("bias(1, 2)", x.bias(1, 2), 2);
        Check.due("bias(1, 10)", x.bias(1, 10), 3);
        Check.due("nothing happened", x.count(3) + x.count(5) + x.count(8) + x.count(10), 0);
        Check.due("nobody has it yet", x.count(4), -2);
        x.years(2);
        Check.due("bias(1, 10) later", x.bias(1, 10), 1);
        Check.due("without heirs there is no vote", Check.told("letter a 40; master m = off;").bias(0, 5), 0);
        // the hand drifts and heirs learn meanwhile
        x = Check.told("letter a 50; heir x 1 0 40; heir y 0 0 45; master m = off; master n = 45 - own; master o = own - 45; days 1; limit 9;");
        Check.due("bias of one who looks at it in time", x.bias(0, 8), 0);
        Check.due("bias of one with the most", x.bias(1, 8), 0);
        // x is at 41 to 44 when y is given it, at 45 in year 4, then further
        Check.due("bias(2, 4)", x.bias(2, 4), 4);
        Check.due("bias(2, 5)", x.bias(2, 5), 4);
        Check.due("bias(2, 8)", x.bias(2, 8), 7);
    }

    private static void bestLetters() {
        String world = "letter a 0; letter b 0; heir x 10 0 50 50; heir y 0 0 0 20; master m = if letter < 1 then 0 else off; days 1;";
        HandHeirs x = Check.told(world);
        Check.due("bestLetter(0, 5, 0)", x.bestLetter(0, 5, 0), 1);
        Check.due("bestLetter(0, 5, 1)", x.bestLetter(0, 5, 1), 3);
        Check.due("bestLetter(0, 50, 1)", x.bestLetter(0, 50, 1), 48);
        Check.due("alike: the first", x.bestLetter(0, 2, 0), 0);
        Check.due("none of them", x.bestLetter(0, 2, 1), 0);
        Check.due("of the other", x.bestLetter(1, 5, 0), 0);
        Check.due("in all", x.bestLetter(1, 5, 1), 5);
        Check.due("bestLetter(0, 0, 0)", x.bestLetter(0, 0, 0), NONE);
        Check.due("bestLetter(0, 51, 0)", x.bestLetter(0, 51, 0), NONE);
        Check.due("bestLetter(2, 1, 0)", x.bestLetter(2, 1, 0), NONE);
        Check.due("bestLetter(-1, 1, 0)", x.bestLetter(-1, 1, 0), NONE);
        Check.due("bestLetter(0, 1, 2)", x.bestLetter(0, 1, 2), NONE);
        Check.due("bestLetter(0, 1, -1)", x.bestLetter(0, 1, -1), NONE);
        Check.due("nothing happened", x.count(3) + x.count(10) + x.shape(0, 1, 0), 50);
        x = Check.told(world + "learn x = 0 - 1;");
        Check.due("instead of what he learns", x.bestLetter(0, 5, 1), 3);
        x = Check.told("heir x 1 1; master m = 1;");
        Check.due("no letters", x.bestLetter(0, 1, 0), -2);
        Check.due("no letters", x.bestLetter(0, 1, 1), -2);
        Check.due("no letters, no such what", x.bestLetter(0, 1, 2), NONE);
    }

    private static void firstNobody() {
        String world = "letter a 40; heir x 0 0 40; ";
        HandHeirs x = Check.told(world + "master m = worn * 10; limit 55;");
        Check.due("nobody()", x.nobody(), 7);
        Check.due("nothing happened", x.count(3) + x.count(5) + x.count(10), 0);
        x.years(2);
        Check.due("nobody() later", x.nobody(), 5);
        Check.due("in year 200", Check.told(world + "master m = worn; limit 198;").nobody(), 200);
        Check.due("not by then", Check.told(world + "master m = worn; limit 199;").nobody(), -2);
        Check.due("at once", new HandHeirs().nobody(), 1);
        Check.due("as the hand drifts", Check.told("letter a 40; heir x 0 0 40; master m = off; drift = 2; limit 9;").nobody(), 6);
    }
}
