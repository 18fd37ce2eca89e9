import java.util.ArrayList;
import java.util.List;
import java.util.Random;

/** Many runs of calls by the dice, on the program and on the Model: all answers must be alike. */
public final class ModelTest {
    private static final Random DICE = new Random(20261117);

    public static void main(String[] args) {
        for (int run = 0; run < 3000; run++) {
            spoiltText(run);
        }
        for (int run = 0; run < 400; run++) {
            runOfCalls(run);
        }
        Check.end();
    }

    private static int dice(int n) {
        return DICE.nextInt(n);
    }

    private static String pick(String... some) {
        return some[dice(some.length)];
    }

    // ---- texts

    private static String expression(int depth) {
        int kind = dice(depth > 0 ? 8 : 3);
        if (kind < 2) {
            return pick("off", "off", "own", "hand", "letter", "year", "worn", "day");
        }
        if (kind < 4) {
            return "" + (dice(4) == 0 ? dice(10000) : dice(12));
        }
        if (kind == 4) {
            return "(" + expression(depth - 1) + ")";
        }
        return expression(depth - 1) + pick(" + ", " - ", "*", "/", " -") + expression(depth - 1);
    }

    private static String law() {
        StringBuilder law = new StringBuilder("=");
        int ifs = dice(3) == 0 ? dice(5) : 0;
        for (int i = 0; i < ifs; i++) {
            law.append(" if " + expression(1) + " < " + expression(1) + " then " + expression(2) + " else");
        }
        return law + " " + pick("off", "off*off", "off + worn", expression(2), expression(3)) + ";";
    }

    private static String name(int i) {
        return "" + (char) ('a' + i) + pick("", "x", "name", "letters");
    }

    private static List<String> tells() {
        List<String> tells = new ArrayList<>();
        int letters = dice(7);
        int heirs = dice(7);
        int masters = dice(4);
        List<String> heirNames = new ArrayList<>();
        for (int i = 0; i < letters; i++) {
            tells.add("letter " + name(i) + " " + dice(100) + ";");
        }
        for (int i = 0; i < masters; i++) {
            tells.add("master " + name(20 + i) + law());
        }
        for (int i = 0; i < heirs; i++) {
            String name = name(10 + i);
            StringBuilder heir = new StringBuilder("heir " + name + " " + dice(dice(4) == 0 ? 100 : 12) + " "
                + (dice(2) == 0 ? 0 : dice(10)));
            for (int l = dice(7); l > 0; l--) {
                heir.append(" " + dice(100));
            }
            tells.add(dice(tells.size() + 1), heir + ";");
            heirNames.add(name);
        }
        for (String heir : heirNames) {
            if (dice(3) == 0) {
                tells.add("learn " + heir + pick("= day;", "= year + day;", "= day*2 - 1;", law()));
            }
        }
        if (dice(3) > 0) {
            tells.add(dice(tells.size() + 1), "drift" + pick("= 1;", "= 0-2;", "= (own - hand)/2;", "= own - hand;", law()));
        }
        if (dice(2) == 0) {
            tells.add(dice(tells.size() + 1), "days " + dice(10) + ";");
        }
        if (dice(2) == 0) {
            tells.add(dice(tells.size() + 1), "limit " + (dice(2) == 0 ? dice(300) : dice(10000)) + ";");
        }
        if (dice(2) == 0) {
            tells.add(dice(tells.size() + 1), "seed " + dice(10000) + ";");
        }
        return tells;
    }

    private static String text() {
        String text = String.join(pick("", " ", "\n"), tells());
        return text.length() <= 2000 ? text : text();
    }

    /** A sound text with some of its bytes or words gone, doubled, swapped or changed. */
    private static void spoiltText(int run) {
        String text = text();
        for (int i = dice(4); i > 0 && !text.isEmpty(); i--) {
            int at = dice(text.length());
            int to = Math.min(text.length(), at + 1 + dice(8));
            switch (dice(5)) {
                case 0: text = text.substring(0, at) + text.substring(to); break;
                case 1: text = text.substring(0, to) + text.substring(at); break;
                case 2: text = text.substring(0, at) + (char) dice(256) + text.substring(at + 1); break;
                case 3: text = text.substring(0, at); break;
                default: text = text.substring(0, at) + pick(" letter a 5;", "100", " if ", "(", "((((", ")", ";", "=",
                    " heir ha 1 1;", " a ", "learn k=1;", "<", " then ", " else ", "master m=1;", " 9 9 9 9 9") + text.substring(at);
            }
        }
        if (text.length() > 2000) {
            return;
        }
        Model.Found found = Model.faultOf(text);
        HandHeirs x = new HandHeirs();
        Check.due("text run " + run + ", read of: " + text, Check.readText(x, text), found.fault());
        Check.due("text run " + run + ", place of: " + text, x.place(), found.place());
    }

    // ---- calls

    private static HandHeirs x;
    private static Model m;
    private static String where;

    private static void runOfCalls(int run) {
        x = new HandHeirs();
        m = new Model();
        String text = text();
        where = "run " + run + " of: " + text + " : ";
        due("read", Check.readText(x, text), m.read(text));
        int calls = 60 + dice(60);
        // a run with many years is dear in the Model, so only some have them
        int mostYears = dice(8) == 0 ? 101 : 6;
        for (int i = 0; i < calls; i++) {
            if (dice(40) == 0) {
                text = text();
                where += "then " + text + " : ";
                due("read", Check.readText(x, text), m.read(text));
            }
            doSomething(mostYears);
            askNow();
            askBook();
            if (dice(4) == 0) {
                askWould();
            }
        }
    }

    private static void due(String call, long got, long want) {
        Check.due(where + call, got, want);
    }

    private static void due(String call, boolean got, boolean want) {
        Check.due(where + call, got, want);
    }

    /** Mostly a number that is there, at times one beside. */
    private static int some(int n) {
        return dice(12) == 0 || n <= 0 ? dice(n + 3) - 1 : dice(n);
    }

    private static void doSomething(int mostYears) {
        int h = some(m.heirs);
        int l = some(m.letters);
        int n = dice(3) == 0 ? dice(102) : dice(4);
        switch (dice(9)) {
            case 0:
            case 1: due("lesson(" + h + ", " + l + ", " + n + ")", x.lesson(h, l, n), m.lesson(h, l, n)); break;
            case 2:
            case 3:
                int years = dice(40) == 0 ? 101 : dice(40) == 0 ? -1 : dice(mostYears);
                due("years(" + years + ")", x.years(years), m.years(years));
                break;
            case 4: due("undo()", x.undo(), m.undo()); break;
            case 5: due("tell", x.tell(l, n), m.tell(l, n)); break;
            case 6:
                int slot = some(3);
                if (dice(2) == 0) {
                    due("hold(" + slot + ")", x.hold(slot), m.hold(slot));
                } else {
                    due("restore(" + slot + ")", x.restore(slot), m.restore(slot));
                }
                break;
            case 7:
                if (dice(6) == 0) {
                    due("forget()", x.forget(), m.forget());
                }
                break;
            default: due("read of a fault", Check.readText(x, "letter a 1; letter a 1;"), 3);
        }
    }

    private static void askNow() {
        for (int what = -1; what <= 13; what++) {
            due("count(" + what + ")", x.count(what), m.count(what));
        }
        int h = some(m.heirs);
        int l = some(m.letters);
        int ma = some(m.masters);
        due("hand(" + l + ")", x.hand(l), m.hand(l));
        for (int what = -1; what <= 3; what++) {
            due("shape(" + h + ", " + l + ", " + what + ")", x.shape(h, l, what), m.shape(h, l, what));
        }
        for (int what = -1; what <= 5; what++) {
            due("heir(" + h + ", " + what + ")", x.heir(h, what), m.heir(h, what));
        }
        due("unlike(" + h + ", " + ma + ")", x.unlike(h, ma), m.unlike(h, ma));
        due("vote(" + ma + ")", x.vote(ma), m.vote(ma));
        due("judge()", x.judge(), m.judge());
        due("swing(" + ma + ")", x.swing(ma), m.swing(ma));
        due("without(" + h + ")", x.without(h), m.without(h));
    }

    private static void askBook() {
        int year = some(m.count(8));
        int l = some(m.letters);
        due("book(" + year + ", " + l + ")", x.book(year, l), m.book(year, l));
        due("book(" + year + ", NONE)", x.book(year, -1), m.book(year, -1));
        int h = some(m.heirs);
        for (int what = -1; what <= 3; what++) {
            due("copied(" + h + ", " + what + ")", x.copied(h, what), m.copied(h, what));
            if (m.count(8) < 30 || dice(10) == 0) {
                due("reign(" + what + ")", x.reign(what), m.reign(what));
            }
        }
        int t = dice(4) == 0 ? dice(103) - 1 : dice(40);
        int k = some(m.count(11) + 1);
        int i = some(Math.min(4, m.count(8) + 1));
        due("dated(" + t + ", " + k + ", " + i + ")", x.dated(t, k, i), m.dated(t, k, i));
        due("dated(" + t + ", " + k + ", NONE)", x.dated(t, k, -1), m.dated(t, k, -1));
    }

    private static void askWould() {
        int h = some(m.heirs);
        int l = some(m.letters);
        int ma = some(m.masters);
        int d = dice(20) == 0 ? dice(3) * 7 - 1 : dice(8);
        int n = dice(10) == 0 ? pickEdge() : 1 + dice(6);
        due("plan(" + h + ", " + d + ")", x.plan(h, d), m.plan(h, d));
        due("planOf(" + h + ", " + d + ", " + l + ")", x.planOf(h, d, l), m.planOf(h, d, l));
        due("chance(" + h + ", " + n + ")", x.chance(h, n), m.chance(h, n));
        due("bias(" + ma + ", " + n + ")", x.bias(ma, n), m.bias(ma, n));
        if (dice(3) == 0) {
            due("needs(" + h + ")", x.needs(h), m.needs(h));
            due("bestLetter(" + h + ", " + n + ", 0)", x.bestLetter(h, n, 0), m.bestLetter(h, n, 0));
            due("bestLetter(" + h + ", " + n + ", 1)", x.bestLetter(h, n, 1), m.bestLetter(h, n, 1));
        }
        if (dice(8) == 0) {
            due("nobody()", x.nobody(), m.nobody());
        }
    }

    private static int pickEdge() {
        return new int[] {-1, 0, 50, 51, 101}[dice(5)];
    }
}
