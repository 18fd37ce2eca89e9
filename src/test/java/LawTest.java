/** Section II: LAWS, what they look at, LOT, and how they are held; seen through promises 7 to 9 and 13. */
public final class LawTest {
    public static void main(String[] args) {
        reckoning();
        ifs();
        dividedByNothing();
        whatMastersLookAt();
        learning();
        drifting();
        trembling();
        Check.end();
    }

    /** What a master's law tells of one letter with the hand 40 and own 33. */
    private static void tells(String law, int want) {
        HandHeirs x = Check.told("letter a 40; heir h 0 0 33; master m = " + law + ";");
        Check.due("unlike by " + law, x.unlike(0, 0), want);
    }

    private static void reckoning() {
        tells("2+3*4", 14);
        tells("(2+3)*4", 20);
        tells("20-5-3", 12);
        tells("20-(5-3)", 18);
        tells("100/7/2", 7);
        tells("100/(7/2)", 33);
        tells("100/7*2", 28);
        tells("2*3+4*5-6/3", 24);
        tells("7-10", 0);
        tells("999", 999);
        tells("1000", 999);
        tells("9999", 999);
        tells("(0-7)/2+10", 7);
        tells("7/(0-2)+10", 7);
        tells("4096*4096*256+5", 5);
        tells("2048*1024*1024", 0);
        tells("2048*1024*1024-1-9999*9999*21-5", 999);
        tells("(0-2048*1024*1024)/(0-1)/1024/1024/2+2000", 976);
        tells("((((((off))))))", 7);
        tells("1-(1-(1-(1-(1-(1-(1*5))))))", 5);
        tells("1+(1+(1+(1+(1+(1+2*3)))))", 12);
    }

    private static void ifs() {
        tells("if 1<2 then 3 else 4", 3);
        tells("if 2<2 then 3 else 4", 4);
        tells("if 3<2 then 3 else 4", 4);
        tells("if 0-1<0 then 3 else 4", 3);
        tells("if 3<3 then 1 else if 2<3 then 2 else if 1<2 then 3 else 4", 2);
        tells("if 3<3 then 1 else if 3<3 then 2 else if 1<2 then 3 else 4", 3);
        tells("if 1<1 then 1 else if 1<1 then 2 else if 1<1 then 3 else if 1<1 then 4 else 5+1", 6);
        tells("if 1<1 then 1 else if 1<1 then 2 else if 1<1 then 3 else if 0<1 then 4 else 5+1", 4);
        tells("if off<7 then 1 else if off<8 then off*off else 2", 49);
        tells("if 1+1<2*2 then 5-1 else 9", 4);
        // what wraps is less
        tells("if 2048*1024*1024<0 then 3 else 4", 3);
    }

    private static void dividedByNothing() {
        tells("5+1/0", 0);
        tells("0*(1/0)+7", 0);
        tells("1/(off-7)", 0);
        tells("9-1/(1/2)", 0);
        tells("if 1<2 then 5 else 1/0", 5);
        tells("if 2<1 then 1/0 else 6", 6);
        tells("if 1<2 then 1/0 else 6", 0);
        tells("if 2<1 then 6 else 1/0", 0);
        tells("if 1/0<5 then 3 else 4", 0);
        tells("if 5<1/0 then 3 else 4", 0);
        tells("if 1<2 then 3 else if 1/0<1 then 2 else 1", 3);
        tells("if 2<1 then 3 else if 1/0<1 then 2 else 1", 0);
        tells("0/5+3", 3);
        tells("7/1+1", 8);
    }

    private static void whatMastersLookAt() {
        tells("off", 7);
        tells("own", 33);
        tells("hand", 40);
        tells("day+5", 5);
        tells("letter+5", 5);
        HandHeirs x = Check.told("letter a 1; letter b 2; letter c 3; heir h 0 0 11 22 33; days 0;"
            + "master m = letter*100 + own; master n = year*10 + worn; master o = hand + 10*off + 100*day;");
        Check.due("letter and own", x.unlike(0, 0), 11 + 122 + 233);
        Check.due("year and worn of 0", x.unlike(0, 1), 0);
        Check.due("hand and off", x.unlike(0, 2), 101 + 202 + 303);
        x.years(4);
        Check.due("year and worn of 4", x.unlike(0, 1), 3 * 44);
        Check.due("all", x.heir(0, 2), 366 + 132 + 606);
        // each letter is held for itself
        x = Check.told("letter a 0; letter b 0; heir h 0 0 0 0; master m = 500 - letter*1000; master n = 2000*letter;");
        Check.due("below 0 is held", x.unlike(0, 0), 500);
        Check.due("above 999 is held", x.unlike(0, 1), 999);
        // off is of what he writes, and so is own
        x = Check.told("letter a 40; heir h 0 9 30; master m = off; master n = own; seed 7;");
        Check.due("off as he writes", x.unlike(0, 0), 15);
        Check.due("own as he writes", x.unlike(0, 1), 25);
    }

    private static int learns(String law, int years) {
        HandHeirs x = Check.told("letter a 9; letter b 9; letter c 9; heir g 1 0; heir h 1 0 1 1 1; learn h = " + law + "; days 2;");
        x.years(years);
        return x.heir(1, 4);
    }

    private static void learning() {
        Check.due("learn 2", learns("2", 0), 2);
        Check.due("learn 3", learns("3", 0), 0);
        Check.due("learn 9998", learns("9998", 0), 2);
        Check.due("learn below 0", learns("0-1", 0), -2);
        Check.due("learn far below 0", learns("0-3", 0), -2);
        Check.due("learn by 1/0", learns("1/0-5", 0), 0);
        Check.due("learn year", learns("year", 5), 2);
        Check.due("learn looks at nothing else", learns("1+off+letter+worn+own+hand+day", 5), 1);
        HandHeirs x = Check.told("letter a 90; letter b 90; letter c 90; heir h 7 0 10 10 10; learn h = day; days 5;");
        x.years(1);
        Check.due("days 0 and 3 for a", x.shape(0, 0, 0), 24);
        Check.due("days 1 and 4 for b", x.shape(0, 1, 0), 24);
        Check.due("day 2 for c", x.shape(0, 2, 0), 17);
        x = Check.told("letter a 90; letter b 90; heir h 7 0 10 10; learn h = 0; learn h = day - 1; days 3;");
        x.years(1);
        Check.due("the last of several, day 1", x.shape(0, 0, 0), 17);
        Check.due("the last of several, day 2", x.shape(0, 1, 0), 17);
        Check.due("none on day 0", x.heir(0, 4), -2);
        // without a law: what is most off, the first of alike ones
        x = Check.told("letter a 50; letter b 50; letter c 50; heir h 5 9 45 62 38; days 1;");
        Check.due("most off", x.heir(0, 4), 1);
        x.years(1);
        Check.due("learned it", x.shape(0, 1, 0), 57);
        Check.due("then the other", x.heir(0, 4), 2);
        x.years(3);
        // b and c, 7 off each, were more off than a, which is 5 off
        Check.due("a after 4 years", x.shape(0, 0, 0), 45);
        Check.due("b after 4 years", x.shape(0, 1, 0), 52);
        Check.due("c after 4 years", x.shape(0, 2, 0), 48);
        x.years(1);
        Check.due("a after 5 years", x.shape(0, 0, 0), 50);
        Check.due("the first of alike ones", x.heir(0, 4), 1);
        x.years(2);
        Check.due("nothing off: the first", x.heir(0, 4), 0);
    }

    private static void drifting() {
        HandHeirs x = Check.told("letter a 50; letter b 3; letter c 98; heir h 0 9 41 41 41; master m = 0; days 0;"
            + "drift = 99; drift = if letter < 1 then own - hand else if letter < 2 then 0 - off else 5;");
        x.years(1);
        Check.due("held to -9", x.hand(0), 41);
        Check.due("held to 0", x.hand(1), 0);
        Check.due("held to 99", x.hand(2), 99);
        x.years(1);
        Check.due("as he has it, not as he writes", x.hand(0), 41);
        x = Check.told("letter a 50; letter b 50; heir h 0 0; master m = 0; days 3;"
            + "drift = if letter < 1 then year*2 + worn*50 + day*50 else 10 + hand - hand;");
        x.years(1);
        Check.due("year 0", x.hand(0), 50);
        Check.due("held to 9", x.hand(1), 59);
        x.years(1);
        Check.due("year 1", x.hand(0), 52);
        x.years(1);
        Check.due("year 2", x.hand(0), 56);
        Check.due("off of who has it", offOfOwner(), 57);
        x = Check.told("letter a 50; heir h 0 0; master m = 1; drift = 1; limit 0;");
        x.years(3);
        Check.due("no drift when it is nobody's", x.hand(0), 50);
        x = Check.told("letter a 50; heir h 0 0; master m = 1; drift = 3/0 + 4;");
        x.years(3);
        Check.due("no drift by 1/0", x.hand(0), 50);
    }

    private static int offOfOwner() {
        HandHeirs x = Check.told("letter a 50; heir g 0 0 99; heir h 0 0 43; master m = off; drift = off; days 0;");
        x.years(1);
        Check.due("who has it", x.count(4), 1);
        return x.hand(0);
    }

    private static void trembling() {
        HandHeirs x = Check.told("letter a 40; letter b 2; letter c 50; letter d 50; letter e 50; letter f 50;"
            + "heir x 0 9 30 5 50 50 50 50; heir y 0 3 99 50 50 50 50 50; heir z 0 0 0 99 50 50 50 50; seed 7; days 0;");
        int[][] years = {
            {25, 0, 51, 49, 47, 42, 99, 47, 50, 47, 52, 48, 0, 99, 50, 50, 50, 50},
            {24, 3, 48, 42, 52, 43, 97, 47, 53, 50, 48, 47, 0, 99, 50, 50, 50, 50},
            {23, 13, 53, 49, 57, 55, 99, 52, 51, 47, 53, 50, 0, 99, 50, 50, 50, 50},
        };
        for (int year = 0; year < 3; year++) {
            for (int i = 0; i < 18; i++) {
                Check.due("written in year " + year + " by " + i / 6 + ", letter " + i % 6,
                    x.shape(i / 6, i % 6, 1), years[year][i]);
            }
            x.years(1);
        }
        Check.due("it has no trembling in it", x.shape(0, 0, 0), 30);
    }
}
