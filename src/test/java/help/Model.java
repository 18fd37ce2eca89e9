import java.util.ArrayList;
import java.util.Arrays;
import java.util.Comparator;
import java.util.HashMap;
import java.util.HashSet;
import java.util.LinkedHashMap;
import java.util.List;
import java.util.Map;
import java.util.Set;
import java.util.TreeSet;

/**
 * The document once more, written as slowly and plainly as can be and with other means than the program:
 * texts by a search over the grammar, laws as trees, plans by trying all of them, undo by whole copies.
 */
final class Model {
    record Token(String kind, String word, int place) {
    }

    record Found(int fault, int place) {
    }

    /** A law: ifs of (a, b, then) and a last expression, each a tree of words. */
    record Law(List<Tree[]> ifs, Tree last) {
    }

    record Tree(String word, Tree left, Tree right) {
    }

    static final class World {
        int year = 0;
        int worn = 0;
        int owner = -2;
        int[] hand = new int[0];
        int[][] shapes = new int[0][];
        List<int[]> bookHands = new ArrayList<>();
        List<Integer> bookWho = new ArrayList<>();
        List<Integer> allOwners = new ArrayList<>();

        World copy() {
            World w = new World();
            w.year = year;
            w.worn = worn;
            w.owner = owner;
            w.hand = hand.clone();
            w.shapes = new int[shapes.length][];
            for (int i = 0; i < shapes.length; i++) {
                w.shapes[i] = shapes[i].clone();
            }
            w.bookHands = new ArrayList<>(bookHands);
            w.bookWho = new ArrayList<>(bookWho);
            w.allOwners = new ArrayList<>(allOwners);
            return w;
        }
    }

    private static final Set<String> WORDS = new HashSet<>(Arrays.asList(
        "letter heir master learn drift days limit seed if then else off year worn own hand day".split(" ")));
    private static final Set<String> VARS = new HashSet<>(Arrays.asList("off letter year worn own hand day".split(" ")));

    int letters = 0;
    int heirs = 0;
    int masters = 0;
    int days = 3;
    int limit = 9999;
    int seed = 0;
    int place = -1;
    int[] skill = new int[6];
    int[] tremor = new int[6];
    List<Law> masterLaws = new ArrayList<>();
    Map<Integer, Law> learnLaws = new HashMap<>();
    Law drift = null;
    World now = new World();
    List<World> past = new ArrayList<>();
    World[] slots = new World[3];
    List<int[]> told = new ArrayList<>();

    // ---- texts

    /** The tokens up to the end or the first thing that is none ("bad"); the last is "end" or "bad". */
    static List<Token> tokens(String text) {
        List<Token> all = new ArrayList<>();
        java.util.regex.Matcher m = java.util.regex.Pattern
            .compile("[a-z]+|[0-9]+|[;=+*/<()-]|[\\t\\n\\r ]+|[\\x00-\\xff]").matcher(text);
        while (m.find()) {
            String w = m.group();
            if (w.matches("[\\t\\n\\r ]+")) {
                continue;
            }
            String kind = "bad";
            if (w.matches("[a-z]{1,8}")) {
                kind = WORDS.contains(w) ? w : "name";
            } else if (w.matches("[0-9]{1,4}")) {
                kind = "int";
            } else if (w.matches("[;=+*/<()-]")) {
                kind = w;
            }
            all.add(new Token(kind, w, m.start()));
            if (kind.equals("bad")) {
                return all;
            }
        }
        all.add(new Token("end", "", text.length()));
        return all;
    }

    /** Whether some text begins with the first n tokens: all ways through the grammar are walked at once. */
    private static final class Walk {
        final List<Token> tokens;
        final int n;
        boolean wantsMore = false;
        final Map<String, Set<Integer>> known = new HashMap<>();

        Walk(List<Token> tokens, int n) {
            this.tokens = tokens;
            this.n = n;
        }

        Set<Integer> one(Set<Integer> from, String kind) {
            Set<Integer> to = new TreeSet<>();
            for (int at : from) {
                if (at == n) {
                    wantsMore = true;
                } else if (tokens.get(at).kind().equals(kind)) {
                    to.add(at + 1);
                }
            }
            return to;
        }

        Set<Integer> many(Set<Integer> from, String part) {
            Set<Integer> all = new TreeSet<>(from);
            Set<Integer> fresh = new TreeSet<>(from);
            while (!fresh.isEmpty()) {
                Set<Integer> to = rule(fresh, part);
                to.removeAll(all);
                all.addAll(to);
                fresh = to;
            }
            return all;
        }

        Set<Integer> rule(Set<Integer> from, String part) {
            Set<Integer> all = new TreeSet<>();
            for (int at : from) {
                String key = part + at;
                if (!known.containsKey(key)) {
                    known.put(key, new TreeSet<>());
                    known.put(key, walked(new TreeSet<>(Set.of(at)), part));
                }
                all.addAll(known.get(key));
            }
            return all;
        }

        Set<Integer> row(Set<Integer> from, String... parts) {
            Set<Integer> at = from;
            for (String part : parts) {
                if (part.startsWith("{")) {
                    at = many(at, part.substring(1));
                } else if (Character.isUpperCase(part.charAt(0))) {
                    at = rule(at, part);
                } else {
                    at = one(at, part);
                }
            }
            return at;
        }

        Set<Integer> either(Set<Integer> from, String[]... rows) {
            Set<Integer> all = new TreeSet<>();
            for (String[] row : rows) {
                all.addAll(row(from, row));
            }
            return all;
        }

        Set<Integer> walked(Set<Integer> from, String part) {
            switch (part) {
                case "TELL": return either(from, s("letter name int ;"), s("heir name int int {INT ;"),
                    s("master name LAW ;"), s("learn name LAW ;"), s("drift LAW ;"), s("days int ;"),
                    s("limit int ;"), s("seed int ;"));
                case "INT": return row(from, "int");
                case "LAW": return row(from, s("= {IF E"));
                case "IF": return row(from, s("if E < E then E else"));
                case "E": return row(from, s("PART {ADDED"));
                case "ADDED": return either(from, s("+ PART"), s("- PART"));
                case "PART": return row(from, s("UNIT {TIMES"));
                case "TIMES": return either(from, s("* UNIT"), s("/ UNIT"));
                default: return either(from, s("int"), s("( E )"), s("off"), s("letter"), s("year"), s("worn"),
                    s("own"), s("hand"), s("day"));
            }
        }

        static String[] s(String row) {
            return row.split(" ");
        }

        boolean goesOn() {
            Set<Integer> ends = many(new TreeSet<>(Set.of(0)), "TELL");
            return wantsMore || ends.contains(n);
        }

        boolean isWhole() {
            return many(new TreeSet<>(Set.of(0)), "TELL").contains(n);
        }
    }

    /** The number of the first token at which SYNTAX is met, or -1. */
    private static int syntaxAt(List<Token> tokens) {
        int last = tokens.size() - 1;
        int good = 0;
        int bad = last + 1;
        // a prefix of what goes on goes on too, so the first that does not is found by halving
        while (good + 1 < bad) {
            int mid = (good + bad) / 2;
            if (mid <= last && new Walk(tokens, mid).goesOn()) {
                good = mid;
            } else {
                bad = mid;
            }
        }
        if (good < last) {
            return good;
        }
        if (tokens.get(last).kind().equals("end") && new Walk(tokens, last).isWhole()) {
            return -1;
        }
        return last;
    }

    /** The number of the first token at which ROOM is met among the first n, or -1. */
    private static int roomAt(List<Token> tokens, int n) {
        int[] tells = new int[3];
        int ifs = 0;
        int open = 0;
        int ints = 0;
        boolean ofHeir = false;
        for (int i = 0; i < n; i++) {
            String kind = tokens.get(i).kind();
            boolean first = i == 0 || tokens.get(i - 1).kind().equals(";");
            if (i == 400) {
                return i;
            }
            if (first) {
                ofHeir = kind.equals("heir");
                ifs = 0;
                open = 0;
                ints = 0;
                int which = Arrays.asList("letter", "heir", "master").indexOf(kind);
                if (which >= 0) {
                    tells[which]++;
                    if (tells[which] > (which == 2 ? 3 : 6)) {
                        return i;
                    }
                }
            }
            ifs += kind.equals("if") ? 1 : 0;
            open += kind.equals("(") ? 1 : kind.equals(")") ? -1 : 0;
            ints += kind.equals("int") ? 1 : 0;
            if (ifs > 4 || open > 6 || ofHeir && ints > 8) {
                return i;
            }
        }
        return -1;
    }

    static Found faultOf(String text) {
        List<Token> tokens = tokens(text);
        int syntax = syntaxAt(tokens);
        int room = roomAt(tokens, syntax >= 0 ? syntax : tokens.size() - 1);
        if (room >= 0) {
            return new Found(2, tokens.get(room).place());
        }
        if (syntax >= 0) {
            return new Found(1, tokens.get(syntax).place());
        }
        Set<String> names = new HashSet<>();
        Set<String> heirNames = new HashSet<>();
        for (List<Token> tell : tells(tokens)) {
            String kind = tell.get(0).kind();
            Token name = tell.get(1);
            if (kind.equals("learn") && !heirNames.contains(name.word())) {
                return new Found(4, name.place());
            }
            if (List.of("letter", "heir", "master").contains(kind)) {
                if (!names.add(name.word())) {
                    return new Found(3, name.place());
                }
                if (kind.equals("heir")) {
                    heirNames.add(name.word());
                }
            }
            int[] most = kind.equals("letter") ? new int[] {99} : kind.equals("days") ? new int[] {9}
                : kind.equals("heir") ? new int[] {99, 9, 99, 99, 99, 99, 99, 99} : new int[0];
            int first = kind.equals("days") ? 1 : 2;
            for (int i = 0; i < most.length && tell.get(first + i).kind().equals("int"); i++) {
                if (Integer.parseInt(tell.get(first + i).word()) > most[i]) {
                    return new Found(5, tell.get(first + i).place());
                }
            }
        }
        return new Found(0, -1);
    }

    private static List<List<Token>> tells(List<Token> tokens) {
        List<List<Token>> all = new ArrayList<>();
        List<Token> one = new ArrayList<>();
        for (Token t : tokens) {
            one.add(t);
            if (t.kind().equals(";")) {
                all.add(one);
                one = new ArrayList<>();
            }
        }
        return all;
    }

    int read(String text) {
        Found found = faultOf(text);
        place = found.place();
        if (found.fault() != 0) {
            return found.fault();
        }
        letters = 0;
        heirs = 0;
        masters = 0;
        days = 3;
        limit = 9999;
        seed = 0;
        masterLaws.clear();
        learnLaws.clear();
        drift = null;
        past.clear();
        told.clear();
        slots = new World[3];
        now = new World();
        List<Integer> hand = new ArrayList<>();
        List<int[]> shapes = new ArrayList<>();
        Map<String, Integer> heirNumbers = new LinkedHashMap<>();
        for (List<Token> tell : tells(tokens(text))) {
            Token second = tell.get(1);
            switch (tell.get(0).kind()) {
                case "letter": hand.add(Integer.parseInt(tell.get(2).word())); letters++; break;
                case "heir":
                    heirNumbers.put(second.word(), heirs);
                    skill[heirs] = Integer.parseInt(tell.get(2).word());
                    tremor[heirs] = Integer.parseInt(tell.get(3).word());
                    int[] row = new int[6];
                    for (int i = 0; i < 6; i++) {
                        row[i] = 4 + i < tell.size() - 1 ? Integer.parseInt(tell.get(4 + i).word()) : 50;
                    }
                    shapes.add(row);
                    heirs++;
                    break;
                case "master": masterLaws.add(law(tell.subList(3, tell.size() - 1))); masters++; break;
                case "learn": learnLaws.put(heirNumbers.get(second.word()), law(tell.subList(3, tell.size() - 1))); break;
                case "drift": drift = law(tell.subList(2, tell.size() - 1)); break;
                case "days": days = Integer.parseInt(second.word()); break;
                case "limit": limit = Integer.parseInt(second.word()); break;
                default: seed = Integer.parseInt(second.word());
            }
        }
        now.hand = hand.stream().mapToInt(i -> i).toArray();
        now.shapes = shapes.toArray(new int[0][]);
        return 0;
    }

    private static Law law(List<Token> tokens) {
        List<Tree[]> ifs = new ArrayList<>();
        int at = 0;
        while (tokens.get(at).kind().equals("if")) {
            int less = find(tokens, at, "<");
            int then = find(tokens, at, "then");
            int other = find(tokens, at, "else");
            ifs.add(new Tree[] {tree(tokens.subList(at + 1, less)), tree(tokens.subList(less + 1, then)),
                tree(tokens.subList(then + 1, other))});
            at = other + 1;
        }
        return new Law(ifs, tree(tokens.subList(at, tokens.size())));
    }

    private static int find(List<Token> tokens, int from, String kind) {
        int at = from;
        while (!tokens.get(at).kind().equals(kind)) {
            at++;
        }
        return at;
    }

    /** Split at the last + or - outside of brackets, else at the last * or /, else take the brackets off. */
    private static Tree tree(List<Token> tokens) {
        for (String signs : new String[] {"+-", "*/"}) {
            int open = 0;
            for (int i = tokens.size() - 1; i >= 0; i--) {
                String kind = tokens.get(i).kind();
                open += kind.equals(")") ? 1 : kind.equals("(") ? -1 : 0;
                if (open == 0 && kind.length() == 1 && signs.contains(kind)) {
                    return new Tree(kind, tree(tokens.subList(0, i)), tree(tokens.subList(i + 1, tokens.size())));
                }
            }
        }
        if (tokens.get(0).kind().equals("(")) {
            return tree(tokens.subList(1, tokens.size() - 1));
        }
        return new Tree(tokens.get(0).word(), null, null);
    }

    // ---- laws; null stands for something divided by 0

    private static Integer value(Tree t, Map<String, Integer> seen) {
        if (t.left() == null) {
            return VARS.contains(t.word()) ? seen.get(t.word()) : Integer.valueOf(t.word());
        }
        Integer a = value(t.left(), seen);
        Integer b = value(t.right(), seen);
        if (a == null || b == null || t.word().equals("/") && b == 0) {
            return null;
        }
        long x = a;
        long y = b;
        switch (t.word()) {
            case "+": return (int) (x + y);
            case "-": return (int) (x - y);
            case "*": return (int) (x * y);
            default: return (int) (x / y);
        }
    }

    private static int value(Law law, int... seven) {
        String[] order = "off letter year worn own hand day".split(" ");
        Map<String, Integer> seen = new HashMap<>();
        for (int i = 0; i < 7; i++) {
            seen.put(order[i], seven[i]);
        }
        for (Tree[] one : law.ifs()) {
            Integer a = value(one[0], seen);
            Integer b = value(one[1], seen);
            if (a == null || b == null) {
                return 0;
            }
            if (a < b) {
                Integer c = value(one[2], seen);
                return c == null ? 0 : c;
            }
        }
        Integer c = value(law.last(), seen);
        return c == null ? 0 : c;
    }

    private static int held(long v, int least, int most) {
        return (int) (v < least ? least : v > most ? most : v);
    }

    // ---- a year

    static int lot(int n, int seed, int which) {
        long h = seed;
        for (long it : new long[] {27, which}) {
            h = ((h ^ it) * 1103515245L + 12345L) & 0xffffffffL;
            h = h ^ (h >> 15);
        }
        return (int) ((h >> 1) % n);
    }

    int written(World w, int theSeed, int heir, int letter) {
        int t = tremor[heir];
        return held(w.shapes[heir][letter] + lot(2 * t + 1, theSeed, 36 * w.year + 6 * heir + letter) - t, 0, 99);
    }

    int told(World w, int master, int letter, int own) {
        int hand = w.hand[letter];
        return held(value(masterLaws.get(master), Math.abs(own - hand), letter, w.year, w.worn, own, hand, 0), 0, 999);
    }

    int unlike(World w, int theSeed, int heir, int master) {
        int sum = 0;
        for (int letter = 0; letter < letters; letter++) {
            sum += told(w, master, letter, written(w, theSeed, heir, letter));
        }
        return sum;
    }

    private List<Integer> allBut(int n, int missing) {
        List<Integer> all = new ArrayList<>();
        for (int i = 0; i < n; i++) {
            if (i != missing) {
                all.add(i);
            }
        }
        return all;
    }

    int voteOf(World w, int theSeed, int master, int noHeir) {
        return allBut(heirs, noHeir).stream()
            .min(Comparator.comparingInt((Integer h) -> unlike(w, theSeed, h, master)).thenComparingInt(h -> h)).orElse(-2);
    }

    int given(World w, int theSeed, int noHeir, int noMaster) {
        List<Integer> there = allBut(heirs, noHeir);
        List<Integer> judges = allBut(masters, noMaster);
        if (there.isEmpty() || judges.isEmpty()) {
            return -2;
        }
        Map<Integer, Integer> votes = new HashMap<>();
        Map<Integer, Integer> sums = new HashMap<>();
        for (int h : there) {
            votes.put(h, 0);
            sums.put(h, judges.stream().mapToInt(m -> unlike(w, theSeed, h, m)).sum());
        }
        for (int m : judges) {
            votes.merge(voteOf(w, theSeed, m, noHeir), 1, Integer::sum);
        }
        there.sort(Comparator.comparingInt((Integer h) -> -votes.get(h)).thenComparingInt(sums::get).thenComparingInt(h -> h));
        int first = there.get(0);
        return sums.get(first) > limit ? -2 : first;
    }

    int learns(World w, int heir, int day) {
        if (letters == 0) {
            return -2;
        }
        Law law = learnLaws.get(heir);
        if (law != null) {
            int v = value(law, 0, 0, w.year, 0, 0, 0, day);
            return v < 0 ? -2 : v % letters;
        }
        return allBut(letters, -1).stream()
            .min(Comparator.comparingInt((Integer l) -> -Math.abs(w.shapes[heir][l] - w.hand[l])).thenComparingInt(l -> l)).get();
    }

    void learn(World w, int heir, int letter) {
        for (int i = 0; i < skill[heir] && w.shapes[heir][letter] != w.hand[letter]; i++) {
            w.shapes[heir][letter] += w.shapes[heir][letter] < w.hand[letter] ? 1 : -1;
        }
    }

    /** Lets a year go; answers for whom the masters voted, and last who was given the estate. */
    int[] goYear(World w, int toldHeir, int toldLetter) {
        for (int day = 0; day < days; day++) {
            for (int heir = 0; heir < heirs; heir++) {
                int letter = heir == toldHeir ? toldLetter : learns(w, heir, day);
                if (letter >= 0) {
                    learn(w, heir, letter);
                }
            }
        }
        int[] votes = new int[masters + 1];
        for (int m = 0; m < masters; m++) {
            votes[m] = voteOf(w, seed, m, -1);
        }
        w.owner = given(w, seed, -1, -1);
        votes[masters] = w.owner;
        w.allOwners.add(w.owner);
        if (w.bookWho.size() < 400) {
            w.bookWho.add(w.owner);
            w.bookHands.add(w.hand.clone());
        }
        w.worn++;
        if (w.owner >= 0 && drift != null) {
            for (int l = 0; l < letters; l++) {
                int own = w.shapes[w.owner][l];
                int by = held(value(drift, Math.abs(own - w.hand[l]), l, w.year, 0, own, w.hand[l], 0), -9, 9);
                w.hand[l] = held(w.hand[l] + by, 0, 99);
            }
        }
        w.year++;
        return votes;
    }

    // ---- the face

    private boolean noHeir(int heir) {
        return heir < 0 || heir >= heirs;
    }

    private boolean noLetter(int letter) {
        return letter < 0 || letter >= letters;
    }

    private boolean noMaster(int master) {
        return master < 0 || master >= masters;
    }

    int hand(int letter) {
        return noLetter(letter) ? -1 : now.hand[letter];
    }

    int shape(int heir, int letter, int what) {
        if (noHeir(heir) || noLetter(letter) || what < 0 || what > 2) {
            return -1;
        }
        int own = now.shapes[heir][letter];
        return what == 0 ? own : what == 1 ? written(now, seed, heir, letter) : Math.abs(own - now.hand[letter]);
    }

    int heir(int heir, int what) {
        if (noHeir(heir) || what < 0 || what > 4) {
            return -1;
        }
        int sum = 0;
        for (int m = 0; m < masters; m++) {
            sum += unlike(now, seed, heir, m);
        }
        int had = (int) now.allOwners.stream().filter(o -> o == heir).count();
        return new int[] {skill[heir], tremor[heir], sum, had, learns(now, heir, 0)}[what];
    }

    int unlike(int heir, int master) {
        return noHeir(heir) || noMaster(master) ? -1 : unlike(now, seed, heir, master);
    }

    int vote(int master) {
        return noMaster(master) ? -1 : voteOf(now, seed, master, -1);
    }

    int judge() {
        return given(now, seed, -1, -1);
    }

    private void keep() {
        past.add(now.copy());
        if (past.size() > 30) {
            past.remove(0);
        }
    }

    int lesson(int heir, int letter, int n) {
        if (noHeir(heir) || noLetter(letter) || n < 1 || n > 99) {
            return -1;
        }
        keep();
        for (int i = 0; i < n; i++) {
            learn(now, heir, letter);
        }
        return shape(heir, letter, 2);
    }

    int years(int n) {
        if (n < 0 || n > 100) {
            return -1;
        }
        if (n > 0) {
            keep();
        }
        for (int i = 0; i < n; i++) {
            goYear(now, -1, -1);
        }
        return now.year;
    }

    boolean undo() {
        if (past.isEmpty()) {
            return false;
        }
        now = past.remove(past.size() - 1);
        return true;
    }

    int book(int year, int letter) {
        if (year < 0 || year >= now.bookWho.size() || letter != -1 && noLetter(letter)) {
            return -1;
        }
        return letter == -1 ? now.bookWho.get(year) : now.bookHands.get(year)[letter];
    }

    /** The least sum, then the days of each letter; all ways are tried in the order in which ties are kept. */
    int[] bestPlan(int heir, int d) {
        int[] best = new int[letters + 1];
        best[0] = letters == 0 ? 0 : Integer.MAX_VALUE;
        tryPlans(heir, d, 0, new int[letters], best);
        return best;
    }

    private void tryPlans(int heir, int left, int letter, int[] plan, int[] best) {
        if (letter == letters) {
            int sum = left == 0 ? sumAfter(heir, plan) : Integer.MAX_VALUE;
            if (left == 0 && sum < best[0]) {
                best[0] = sum;
                System.arraycopy(plan, 0, best, 1, letters);
            }
            return;
        }
        for (int mine = left; mine >= 0; mine--) {
            plan[letter] = mine;
            tryPlans(heir, left - mine, letter + 1, plan, best);
        }
    }

    private final Map<Integer, int[]> costs = new HashMap<>();

    private int sumAfter(int heir, int[] plan) {
        int sum = 0;
        for (int l = 0; l < letters; l++) {
            sum += costs.get(heir)[l * 13 + plan[l]];
        }
        return sum;
    }

    private void reckonCosts(int heir) {
        int[] row = new int[6 * 13];
        for (int l = 0; l < letters; l++) {
            World w = now.copy();
            for (int n = 0; n <= 12; n++) {
                for (int m = 0; m < masters; m++) {
                    row[l * 13 + n] += told(w, m, l, w.shapes[heir][l]);
                }
                learn(w, heir, l);
            }
        }
        costs.put(heir, row);
    }

    int plan(int heir, int d) {
        if (noHeir(heir) || d < 0 || d > 12) {
            return -1;
        }
        reckonCosts(heir);
        return bestPlan(heir, d)[0];
    }

    int planOf(int heir, int d, int letter) {
        if (noHeir(heir) || d < 0 || d > 12 || noLetter(letter)) {
            return -1;
        }
        reckonCosts(heir);
        return bestPlan(heir, d)[letter + 1];
    }

    int needs(int heir) {
        if (noHeir(heir)) {
            return -1;
        }
        reckonCosts(heir);
        for (int d = 0; d <= 12; d++) {
            int[] plan = bestPlan(heir, d);
            World w = now.copy();
            for (int l = 0; l < letters; l++) {
                for (int i = 0; i < plan[l + 1]; i++) {
                    learn(w, heir, l);
                }
            }
            if (given(w, seed, -1, -1) == heir) {
                return d;
            }
        }
        return -2;
    }

    int swing(int master) {
        return noMaster(master) ? -1 : given(now, seed, -1, master);
    }

    int without(int heir) {
        return noHeir(heir) ? -1 : given(now, seed, heir, -1);
    }

    int chance(int heir, int n) {
        if (noHeir(heir) || n < 1 || n > 50) {
            return -1;
        }
        int times = 0;
        for (int s = 0; s < n; s++) {
            times += given(now, s, -1, -1) == heir ? 1 : 0;
        }
        return times;
    }

    int bias(int master, int n) {
        if (noMaster(master) || n < 1 || n > 100) {
            return -1;
        }
        World w = now.copy();
        int times = 0;
        for (int i = 0; i < n; i++) {
            int[] votes = goYear(w, -1, -1);
            times += votes[master] >= 0 && votes[master] != votes[masters] ? 1 : 0;
        }
        return times;
    }

    int bestLetter(int heir, int n, int what) {
        if (noHeir(heir) || n < 1 || n > 50 || what < 0 || what > 1) {
            return -1;
        }
        int[] times = new int[letters];
        for (int l = 0; l < letters; l++) {
            World w = now.copy();
            for (int i = 0; i < n; i++) {
                times[l] += goYear(w, heir, l)[masters] == heir ? 1 : 0;
            }
        }
        for (int l = 0; l < letters; l++) {
            if (times[l] == Arrays.stream(times).max().getAsInt()) {
                return what == 0 ? l : times[l];
            }
        }
        return -2;
    }

    int nobody() {
        World w = now.copy();
        for (int i = 1; i <= 200; i++) {
            if (goYear(w, -1, -1)[masters] == -2) {
                return i;
            }
        }
        return -2;
    }

    int reign(int what) {
        if (what < 0 || what > 2) {
            return -1;
        }
        int led = now.bookWho.size();
        for (int length = led; length >= 1; length--) {
            for (int first = 0; first + length <= led; first++) {
                List<Integer> row = now.bookWho.subList(first, first + length);
                if (row.get(0) >= 0 && new HashSet<>(row).size() == 1) {
                    return new int[] {length, first, row.get(0)}[what];
                }
            }
        }
        return -2;
    }

    int copied(int heir, int what) {
        if (noHeir(heir) || what < 0 || what > 1) {
            return -1;
        }
        int year = -1;
        int least = Integer.MAX_VALUE;
        for (int page = 0; page <= now.bookWho.size(); page++) {
            int[] hand = page < now.bookWho.size() ? now.bookHands.get(page) : now.hand;
            int apart = 0;
            for (int l = 0; l < letters; l++) {
                apart += Math.abs(hand[l] - now.shapes[heir][l]);
            }
            if (apart < least) {
                least = apart;
                year = page < now.bookWho.size() ? page : now.year;
            }
        }
        return what == 0 ? year : least;
    }

    int tell(int letter, int shape) {
        if (noLetter(letter) || shape < 0 || shape > 99 || told.size() == 20) {
            return -1;
        }
        told.add(new int[] {letter, shape});
        return told.size() - 1;
    }

    int forget() {
        int were = told.size();
        told.clear();
        return were;
    }

    int dated(int t, int k, int i) {
        if (t < 0 || t > 99 || k < 0 || k > told.size() || i < -1) {
            return -1;
        }
        List<Integer> fit = new ArrayList<>();
        for (int page = 0; page <= now.bookWho.size(); page++) {
            int[] hand = page < now.bookWho.size() ? now.bookHands.get(page) : now.hand;
            if (told.subList(0, k).stream().allMatch(p -> Math.abs(hand[p[0]] - p[1]) <= t)) {
                fit.add(page < now.bookWho.size() ? page : now.year);
            }
        }
        return i == -1 ? fit.size() : i < fit.size() ? fit.get(i) : -1;
    }

    boolean hold(int slot) {
        if (slot < 0 || slot > 2) {
            return false;
        }
        slots[slot] = now.copy();
        return true;
    }

    boolean restore(int slot) {
        if (slot < 0 || slot > 2 || slots[slot] == null) {
            return false;
        }
        now = slots[slot].copy();
        past.clear();
        return true;
    }

    int count(int what) {
        int held = (int) Arrays.stream(slots).filter(s -> s != null).count();
        int[] all = {letters, heirs, masters, now.year, now.owner, now.worn, days, limit, now.bookWho.size(), 0,
            past.size(), told.size(), held};
        return what < 0 || what >= all.length ? -1 : all[what];
    }
}
