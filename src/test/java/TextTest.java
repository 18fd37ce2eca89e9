/** Promises 1 to 5: a new object, the tape, texts and their FAULTS. */
public final class TextTest {
    public static void main(String[] args) {
        newObject();
        feedAndBack();
        tokens();
        syntax();
        room();
        roomOfTokens();
        roomOfTokensInEachTell();
        takenBackIsGone();
        namesOfAllKinds();
        textAfterText();
        laterFaults();
        whatAFaultLeaves();
        whatASoundTextEnds();
        Check.end();
    }

    private static void newObject() {
        HandHeirs x = new HandHeirs();
        int[] due = {0, 0, 0, 0, -2, 0, 3, 9999, 0, 0, 0, 0, 0};
        for (int what = 0; what < due.length; what++) {
            Check.due("new count(" + what + ")", x.count(what), due[what]);
        }
        Check.due("new place()", x.place(), HandHeirs.NONE);
        Check.due("new judge()", x.judge(), -2);
        Check.due("new undo()", x.undo(), false);
        Check.due("new book(0, NONE)", x.book(0, HandHeirs.NONE), -1);
        Check.due("new forget()", x.forget(), 0);
    }

    private static void feedAndBack() {
        HandHeirs x = new HandHeirs();
        Check.due("back(1) of an empty tape", x.back(1), -1);
        Check.due("back(0) of an empty tape", x.back(0), 0);
        for (int i = 1; i <= 100; i++) {
            Check.due("feed " + i, x.feed(0x20202020, 0x20202020, 0x20202020, 0x20202020, 0x20202020), 20 * i);
        }
        Check.due("feed 101", x.feed(0, 0, 0, 0, 0), -1);
        Check.due("tape after it", x.count(9), 2000);
        Check.due("back(1)", x.back(1), 1999);
        Check.due("feed with room for 1", x.feed(0, 0, 0, 0, 0), -1);
        Check.due("back(18)", x.back(18), 1981);
        Check.due("feed with room for 19", x.feed(0, 0, 0, 0, 0), -1);
        Check.due("tape after it", x.count(9), 1981);
        Check.due("back(-1)", x.back(-1), -1);
        Check.due("back(2000)", x.back(2000), -1);
        Check.due("back(least int)", x.back(Integer.MIN_VALUE), -1);
        Check.due("back(1)", x.back(1), 1980);
        Check.due("feed with room for 20", x.feed(0x20202020, 0, 0, 0, 0), 2000);
        Check.due("read", x.read(), 1);
        Check.due("place behind 1984 blanks", x.place(), 1984);
        Check.due("tape is empty then", x.count(9), 0);
        Check.due("read of nothing", x.read(), 0);
        Check.due("place without a fault", x.place(), -1);
        Check.due("feed", x.feed(0x64617973, 0x20373b20, 0x20202020, 0x20202020, 0x202020ff), 20);
        Check.due("read", x.read(), 1);
        Check.due("the last byte of e is the last", x.place(), 19);
        x.feed(0x64617973, 0x20373b20, 0x20202020, 0x20202020, 0x202020ff);
        Check.due("back(1)", x.back(1), 19);
        Check.due("read", x.read(), 0);
        Check.due("days", x.count(6), 7);
    }

    private static void tokens() {
        Check.fault("", 0, -1);
        Check.fault(" \t\n\r ", 0, -1);
        Check.fault("letter a 5;", 0, -1);
        Check.fault("letter a5;", 0, -1);
        Check.fault("letter\ta\n5\r;", 0, -1);
        Check.fault("letter\fa 5;", 1, 6);
        Check.fault("lettera 5;", 1, 0);
        Check.fault("letter abcdefgh 1;", 0, -1);
        Check.fault("letter abcdefghi 1;", 1, 7);
        Check.fault("letter a 0099;", 0, -1);
        Check.fault("letter a 00099;", 1, 9);
        Check.fault("letter a 1234;", 5, 9);
        Check.fault("letter a 12345;", 1, 9);
        Check.fault("letter aB 1;", 1, 8);
        Check.fault("letter a 1:", 1, 10);
        Check.fault("letter \u00e1 1;", 1, 7);
        Check.fault("letter a 1;\0", 1, 11);
        Check.fault("master m=off>1;", 1, 12);
        Check.fault("master m=((off+1)-2)*3/(4);learn", 1, 32);
        String words = "letter heir master learn drift days limit seed if then else off year worn own hand day";
        for (String word : words.split(" ")) {
            Check.fault("letter " + word + " 1;", 1, 7);
            Check.fault("letter " + word + "a 1;", 0, -1);
            Check.fault("letter " + word.substring(0, word.length() - 1) + "z 1;", 0, -1);
        }
    }

    private static void syntax() {
        Check.fault(";", 1, 0);
        Check.fault("a", 1, 0);
        Check.fault("5", 1, 0);
        Check.fault("off", 1, 0);
        Check.fault("letter", 1, 6);
        Check.fault("letter a", 1, 8);
        Check.fault("letter a  ", 1, 10);
        Check.fault("letter a ;", 1, 9);
        Check.fault("letter a 5", 1, 10);
        Check.fault("letter a 5 6;", 1, 11);
        Check.fault("letter a 5; x", 1, 12);
        Check.fault("letter a -5;", 1, 9);
        Check.fault("letter 5 5;", 1, 7);
        Check.fault("heir a 1;", 1, 8);
        Check.fault("heir a;", 1, 6);
        Check.fault("heir a 1 2 3 x;", 1, 13);
        Check.fault("master m off;", 1, 9);
        Check.fault("master m =;", 1, 10);
        Check.fault("master = off;", 1, 7);
        Check.fault("master m = off", 1, 14);
        Check.fault("master m = -1;", 1, 11);
        Check.fault("master m = 1 +;", 1, 14);
        Check.fault("master m = 1 2;", 1, 13);
        Check.fault("master m = (1;", 1, 13);
        Check.fault("master m = 1);", 1, 12);
        Check.fault("master m = ();", 1, 12);
        Check.fault("master m = abc;", 1, 11);
        Check.fault("master m = 1 < 2;", 1, 13);
        Check.fault("master m = if 1 then 2 else 3;", 1, 16);
        Check.fault("master m = if 1 < 2 else 3;", 1, 20);
        Check.fault("master m = if 1 < 2 then 3;", 1, 26);
        Check.fault("master m = if 1 < 2 < 3 then 3 else 4;", 1, 20);
        Check.fault("master m = if 1 < 2 then if 1 < 2 then 3 else 4 else 5;", 1, 25);
        Check.fault("master m = (if 1 < 2 then 3 else 4);", 1, 12);
        Check.fault("learn = 1;", 1, 6);
        Check.fault("drift d = 1;", 1, 6);
        Check.fault("drift = letter + year + worn + own + hand + day + off;", 0, -1);
        Check.fault("drift = days;", 1, 8);
        Check.fault("days = 1;", 1, 5);
        Check.fault("limit;", 1, 5);
        Check.fault("seed 1 2;", 1, 7);
    }

    private static void room() {
        Check.fault("letter a 1;letter b 1;letter c 1;letter d 1;letter e 1;letter f 1;", 0, -1);
        Check.fault("letter a 1;letter b 1;letter c 1;letter d 1;letter e 1;letter f 1; letter g 1;", 2, 67);
        Check.fault("letter a 1;letter b 1;letter c 1;letter d 1;letter e 1;letter f 1; letter", 2, 67);
        Check.fault("letter a 1;letter a 1;letter a 1;letter a 1;letter a 1;letter a 1; letter", 2, 67);
        Check.fault("heir a 1 1;heir b 1 1;heir c 1 1;heir d 1 1;heir e 1 1;heir f 1 1;", 0, -1);
        Check.fault("heir a 1 1;heir b 1 1;heir c 1 1;heir d 1 1;heir e 1 1;heir f 1 1;heir 5", 2, 66);
        Check.fault("master a=1;master b=1;master c=1;", 0, -1);
        Check.fault("master a=1;master b=1;master c=1; master d=1;", 2, 34);
        Check.fault("heir a 1 2 3 4 5 6 7 8;", 0, -1);
        Check.fault("heir a 1 2 3 4 5 6 7 8 9;", 2, 23);
        Check.fault("heir a 1 2 3 4 5 6 7 8 12345;", 1, 23);
        String ifs = "if 1<2 then 3 else ";
        Check.fault("drift = " + ifs.repeat(4) + "5;", 0, -1);
        Check.fault("drift = " + ifs.repeat(4) + "if", 2, 8 + 4 * ifs.length());
        Check.fault("drift = " + ifs.repeat(4) + "5; drift = " + ifs.repeat(4) + "5;", 0, -1);
        Check.fault("drift = ((((((1))))));", 0, -1);
        Check.fault("drift = (((((((1)))))));", 2, 14);
        Check.fault("drift = (1)+(2)+(3)+(4)+(5)+(6)+(7)*(((((8)))));", 0, -1);
        Check.fault("drift = ((((((1)))))) + ((((((1)+(1))))));", 0, -1);
        Check.fault("drift = ((((((1+(", 2, 16);
        Check.fault("drift = if ((((((1)))))) < ((((((2)))))) then ((((((1)))))) else (((((((", 2, 71);
        // the first by its place, whichever it is
        Check.fault("master a=1;master b=1;master c=1; master d=1; x", 2, 34);
        Check.fault("x; drift = (((((((1)))))));", 1, 0);
    }

    private static void roomOfTokens() {
        String threes = "days1;".repeat(133);
        Check.fault(threes, 0, -1);
        Check.fault("days1;".repeat(132) + "drift=0;", 0, -1);
        Check.fault("days1;".repeat(132) + "drift=0; days1;", 2, 132 * 6 + 9);
        Check.fault("days1;".repeat(132) + "drift=0; x", 1, 132 * 6 + 9);
        Check.fault("days1;".repeat(132) + "drift=0; $", 1, 132 * 6 + 9);
        Check.fault("days1;".repeat(132) + "drift=0;  ", 0, -1);
        Check.fault(threes + "days", 1, 133 * 6 + 4);
        Check.fault(threes + "days 1;", 2, 133 * 6 + 5);
        Check.fault(threes + "days x", 1, 133 * 6 + 5);
        Check.fault(threes + "days 12345", 1, 133 * 6 + 5);
        Check.fault("drift=1" + "+1".repeat(198) + ";", 0, -1);
        Check.fault("drift=1" + "+1".repeat(199) + ";", 2, 7 + 2 * 198 + 1);
        Check.fault("drift=1" + "*1".repeat(600) + ";", 2, 7 + 2 * 198 + 1);
        // a WRONG number ahead of it does not count then
        Check.fault("days99;".repeat(133) + "days 1;", 2, 133 * 7 + 5);
    }

    /** Each TOKEN of each kind of TELL as the 401st: ROOM if it fits, SYNTAX if not. */
    private static void roomOfTokensInEachTell() {
        String[] tells = {"letter a 1 ;", "heir a 1 2 3 4 ;", "master a = off + 1 * 2 ;", "learn h = ( off ) ;",
            "drift = if 1 < 2 then 3 else 4 - 5 / 6 ;", "days 1 ;", "limit 1 ;", "seed 1 ;", "heir a 100 2 3 ;"};
        for (String tell : tells) {
            String[] tokens = tell.split(" ");
            for (int ahead = 0; ahead < tokens.length; ahead++) {
                String text = tokensInAll(400 - ahead);
                for (int i = 0; i < ahead; i++) {
                    text += tokens[i] + " ";
                }
                Check.fault(text + tokens[ahead] + " ", 2, text.length());
                Check.fault(text + "then", tokens[ahead].equals("then") ? 2 : 1, text.length());
                Check.fault(text, ahead == 0 ? 0 : 1, ahead == 0 ? -1 : text.length());
            }
        }
    }

    /** A sound text of so many tokens: days has three, and drift with or without a sum four and more. */
    private static String tokensInAll(int count) {
        String text = "heir h 1 1;";
        int left = count - 5;
        while (left % 3 != 0) {
            text += "drift=0;";
            left -= 4;
        }
        return text + "days1;".repeat(left / 3);
    }

    private static void takenBackIsGone() {
        HandHeirs x = new HandHeirs();
        Check.feedText(x, "letterx");
        x.back(1);
        Check.due("a word that was longer", x.read(), 1);
        Check.due("its end", x.place(), 6);
        Check.feedText(x, "letter a 12345");
        x.back(4);
        Check.due("a number that was longer", x.read(), 1);
        Check.due("its end", x.place(), 10);
        Check.feedText(x, "days 5;  x");
        x.back(1);
        Check.due("blanks and more", x.read(), 0);
        Check.feedText(x, "days");
        Check.feedText(x, " 7");
        Check.feedText(x, ";");
        Check.due("in parts", x.read(), 0);
        Check.due("days", x.count(6), 7);
    }

    private static void namesOfAllKinds() {
        String all = "";
        for (int i = 0; i < 6; i++) {
            all += "letter l" + (char) ('a' + i) + " 1; heir h" + (char) ('a' + i) + " 1 1; ";
        }
        String masters = "master ma = 1; master mb = 1; ";
        Check.fault(all + masters, 0, -1);
        for (String name : "la lb lc ld le lf ha hb hc hd he hf ma mb".split(" ")) {
            Check.fault(all + masters + "master " + name + " = 1;", 3, all.length() + masters.length() + 7);
        }
        for (String name : "ma mb mc".split(" ")) {
            Check.fault(masters + "master mc = 1; letter " + name + " 1;", 3, masters.length() + 22);
        }
        for (char c = 'a'; c <= 'f'; c++) {
            Check.fault(all + "learn h" + c + " = 1;", 0, -1);
            Check.fault(all + "learn l" + c + " = 1;", 4, all.length() + 6);
        }
        Check.fault(all + masters + "learn ma = 1;", 4, all.length() + masters.length() + 6);
        HandHeirs x = new HandHeirs();
        for (int i = 0; i < 3; i++) {
            Check.due("names of the text ahead are free again", Check.readText(x, all + masters + "master mc = 1;"), 0);
            Check.due("and not there any more", Check.readText(x, "learn hb = 1;"), 4);
        }
        // names that a careless number would take for one another
        Check.fault("letter az 1; letter ba 1; letter b 1; letter aa 1; letter zz 1; letter aaa 1;", 0, -1);
        Check.fault("letter zzzzzzzz 1; letter zzzzzzzy 1; letter zzzzzzz 1; letter z 1;", 0, -1);
        Check.fault("letter zzzzzzzz 1; letter zzzzzzzz 1;", 3, 26);
    }

    /** Nothing of a text stays when others come, however often. */
    private static void textAfterText() {
        HandHeirs x = new HandHeirs();
        String full = "letter a 9; letter b 8; heir h 5 0 30 60; heir i 5 3 1 1; heir j 0 0 9 9; master m = off*" + "1*".repeat(60) + "1;"
            + "master n = off; learn h = 1; learn j = 1; drift = 1; days 1; limit 500; seed 5;";
        for (int i = 0; i < 7; i++) {
            Check.due("full", Check.readText(x, full), 0);
            Check.due("plan", x.plan(0, 0), 2 * (21 + 52));
            Check.due("plan", x.plan(0, 3), 2 * (21 + 52 - 15));
            Check.due("years", x.years(2), 2);
            Check.due("hand", x.hand(0), 11);
            Check.due("years had", x.heir(2, 3), 2);
            Check.due("limit", x.count(7), 500);
            Check.due("bare", Check.readText(x, "letter c 7; letter d 7; letter e 7; heir p 1 0; heir q 1 9; heir r 1 0; master s = off;"), 0);
            int[] due = {3, 3, 1, 0, -2, 0, 3, 9999, 0, 0, 0, 0, 0};
            for (int what = 0; what < due.length; what++) {
                Check.due("count(" + what + ") of a bare text", x.count(what), due[what]);
            }
            for (int heir = 0; heir < 3; heir++) {
                Check.due("shape", x.shape(heir, 1, 0), 50);
                Check.due("learns", x.heir(heir, 4), 0);
                Check.due("years had", x.heir(heir, 3), 0);
            }
            Check.due("written with seed 0", x.shape(1, 0, 1), 57);
            Check.due("unlike", x.unlike(0, 0), 3 * 43);
            x.years(1);
            Check.due("no drift", x.hand(0) + x.hand(1) + x.hand(2), 21);
            Check.due("no letters", Check.readText(x, "heir p 1 0; master m = 5;"), 0);
            Check.due("plan of no letters", x.plan(0, 3), 0);
            Check.due("a fault", Check.readText(x, full + "x"), 1);
            Check.due("heirs", x.count(1), 1);
        }
        for (int i = 0; i < 3; i++) {
            Check.due("drifts", Check.readText(x, "drift = 1; letter a 9; heir g 1 1 99; heir h 5 0 9; master m = off; days 0;"), 0);
            x.years(3);
            Check.due("hand", x.hand(0), 12);
            Check.due("years had", x.heir(1, 3), 3);
            for (int j = 0; j < i; j++) {
                Check.due("drifts not", Check.readText(x, "letter a 9; heir g 1 1 99; heir h 5 0 9; master m = off + 5; days 0;"), 0);
                Check.due("years had", x.heir(1, 3), 0);
                x.years(1);
                Check.due("hand", x.hand(0), 9);
            }
        }
    }

    private static void laterFaults() {
        Check.fault("letter a 1; letter a 2;", 3, 19);
        Check.fault("letter a 1; heir a 1 1;", 3, 17);
        Check.fault("heir a 1 1; master a = 1;", 3, 19);
        Check.fault("master a = 1; letter a 1;", 3, 21);
        Check.fault("letter ab 1; letter a 1; letter b 1; letter ba 1;", 0, -1);
        Check.fault("learn a = 0;", 4, 6);
        Check.fault("learn a = 0; heir a 1 1;", 4, 6);
        Check.fault("letter a 1; learn a = 0;", 4, 18);
        Check.fault("heir a 1 1; learn a = 0;", 0, -1);
        Check.fault("heir a 1 1; learn a = 0; learn a = 1;", 0, -1);
        Check.fault("heir a 1 1; heir b 1 1; learn b = 0; learn c = 1;", 4, 43);
        Check.fault("letter a 99;", 0, -1);
        Check.fault("letter a 100;", 5, 9);
        Check.fault("heir a 99 9 99 99 99 99 99 99;", 0, -1);
        Check.fault("heir a 100 0;", 5, 7);
        Check.fault("heir a 99 10;", 5, 10);
        Check.fault("heir a 1 1 99 100;", 5, 14);
        Check.fault("heir a 1 1 1 1 1 1 1 100;", 5, 21);
        Check.fault("days 9;", 0, -1);
        Check.fault("days 10;", 5, 5);
        Check.fault("limit 9999; seed 9999;", 0, -1);
        Check.fault("drift = 9999;", 0, -1);
        // the first by its place
        Check.fault("letter a 100; letter a 1;", 5, 9);
        Check.fault("letter a 1; letter a 100;", 3, 19);
        Check.fault("days 10; learn a = 0;", 5, 5);
        Check.fault("learn a = 0; days 10;", 4, 6);
        Check.fault("days 10; days 3;", 5, 5);
        // SYNTAX and ROOM come before all of them
        Check.fault("letter a 1; letter a 2; x", 1, 24);
        Check.fault("learn a = 0; drift = (((((((1)))))));", 2, 27);
        Check.fault("days 10; limit", 1, 14);
        Check.fault("letter a 100 ", 1, 13);
    }

    private static void whatAFaultLeaves() {
        HandHeirs x = Check.told("letter a 40; letter b 60; heir h 5 0 30 60; master m = off; days 1; limit 50; seed 7;");
        x.years(2);
        x.tell(0, 40);
        x.hold(1);
        x.years(1);
        Check.due("read", Check.readText(x, "letter z 1; heir z 1 1; days 4; limit 2;"), 3);
        Check.due("place", x.place(), 17);
        int[] due = {2, 1, 1, 3, 0, 3, 1, 50, 3, 0, 2, 1, 1};
        for (int what = 0; what < due.length; what++) {
            Check.due("count(" + what + ") after a fault", x.count(what), due[what]);
        }
        Check.due("hand", x.hand(0), 40);
        Check.due("shape", x.shape(0, 0, 0), 40);
        Check.due("undo after a fault", x.undo(), true);
        Check.due("restore after a fault", x.restore(1), true);
        Check.due("year", x.count(3), 2);
        Check.due("place stays", x.place(), 17);
        Check.due("read of nothing", x.read(), 0);
        Check.due("place goes", x.place(), -1);
    }

    private static void whatASoundTextEnds() {
        HandHeirs x = Check.told("letter a 40; letter b 60; heir h 5 0 30 60; master m = off; days 1; limit 50; drift = 1;"
            + "learn h = 1;");
        x.years(3);
        x.tell(0, 40);
        x.hold(0);
        x.lesson(0, 0, 1);
        Check.due("read", Check.readText(x, "letter q 8; heir r 1 2; master s = 0;"), 0);
        int[] due = {1, 1, 1, 0, -2, 0, 3, 9999, 0, 0, 0, 0, 0};
        for (int what = 0; what < due.length; what++) {
            Check.due("count(" + what + ") of a new text", x.count(what), due[what]);
        }
        Check.due("hand", x.hand(0), 8);
        Check.due("untold shape", x.shape(0, 0, 0), 50);
        Check.due("skill", x.heir(0, 0), 1);
        Check.due("tremor", x.heir(0, 1), 2);
        Check.due("years had", x.heir(0, 3), 0);
        Check.due("undo", x.undo(), false);
        Check.due("restore", x.restore(0), false);
        Check.due("book", x.book(0, -1), -1);
        Check.due("year", x.years(1), 1);
        Check.due("no drift is told", x.hand(0), 8);
        Check.due("read of nothing", x.read(), 0);
        Check.due("letters", x.count(0), 0);
        Check.due("days", x.count(6), 3);
    }
}
