import java.lang.reflect.Array;
import java.lang.reflect.Constructor;
import java.lang.reflect.Field;
import java.lang.reflect.Method;
import java.lang.reflect.Modifier;
import java.nio.file.Files;
import java.nio.file.Path;
import java.util.ArrayDeque;
import java.util.ArrayList;
import java.util.Arrays;
import java.util.Collections;
import java.util.Deque;
import java.util.IdentityHashMap;
import java.util.List;
import java.util.Random;
import java.util.Set;
import java.util.TreeSet;
import java.util.regex.Matcher;
import java.util.regex.Pattern;

/** What LANGUAGE.md asks of the file, as far as it can be seen simply; and that no call throws, whatever it is given. */
public final class RulesTest {
    private static final String FACE = "feed/5 back/1 read/0 place/0 hand/1 shape/3 heir/2 unlike/2 vote/1 judge/0 lesson/3 "
        + "years/1 undo/0 book/2 plan/2 planOf/3 needs/1 swing/1 chance/2 without/1 bias/2 bestLetter/3 reign/1 copied/2 "
        + "nobody/0 tell/2 forget/0 dated/3 hold/1 restore/1 count/1";

    public static void main(String[] args) throws Exception {
        face();
        words();
        classes();
        room();
        anythingGoes();
        Check.end();
    }

    private static void face() {
        TreeSet<String> due = new TreeSet<>(Arrays.asList(FACE.split(" ")));
        TreeSet<String> names = new TreeSet<>();
        TreeSet<String> got = new TreeSet<>();
        for (Method m : HandHeirs.class.getDeclaredMethods()) {
            if (Modifier.isPublic(m.getModifiers())) {
                got.add(m.getName() + "/" + m.getParameterCount());
                names.add(m.getName());
            } else {
                Check.due("is private: " + m, Modifier.isPrivate(m.getModifiers()), true);
            }
        }
        for (Method m : HandHeirs.class.getDeclaredMethods()) {
            Check.due("no private name of a public one: " + m, Modifier.isPublic(m.getModifiers()) || !names.contains(m.getName()), true);
        }
        Check.due("the face is " + got, got.equals(due), true);
        for (Field f : HandHeirs.class.getDeclaredFields()) {
            Check.due("is private: " + f, Modifier.isPrivate(f.getModifiers()) || f.getName().equals("NONE"), true);
        }
        Check.due("public and final", HandHeirs.class.getModifiers(), Modifier.PUBLIC | Modifier.FINAL);
        Constructor<?>[] all = HandHeirs.class.getDeclaredConstructors();
        Check.due("constructors", all.length, 1);
        Check.due("NONE", HandHeirs.NONE, -1);
    }

    private static String source() throws Exception {
        String text = Files.readString(Path.of("src/main/java/HandHeirs.java"));
        return text.replaceAll("(?s)/\\*.*?\\*/", "").replaceAll("//[^\n]*", "");
    }

    private static void words() throws Exception {
        String bare = source().replaceAll("\"[^\"]*\"", "\"\"");
        String[] banned = {"throw", "throws", "try", "catch", "synchronized", "assert", "import", "package", "native", "volatile",
            "transient", "hashCode", "toString", "equals", "Thread", "Random", "Object", "double", "float"};
        for (String word : banned) {
            Check.due("no " + word, Pattern.compile("\\b" + word + "\\b").matcher(bare).find(), false);
        }
        Check.due("no lambda", bare.contains("->"), false);
        Check.due("no method reference", bare.contains("::"), false);
        Matcher calls = Pattern.compile("\\b(Math|System|Arrays|Integer|Long)\\.(\\w+)").matcher(bare);
        while (calls.find()) {
            Check.due("library: " + calls.group(), "max min abs arraycopy".contains(calls.group(2)), true);
        }
        // an array or object is made with the object alone, so that no call takes room
        Matcher made = Pattern.compile("(?m)^.*\\bnew\\b.*$").matcher(bare);
        while (made.find()) {
            String line = made.group().trim();
            Check.due("made once: " + line, line.contains("final") || line.startsWith("slots[slot] = new Slot")
                || line.startsWith("kept[i] = new State") || line.startsWith("private Will will = new")
                || line.startsWith("Will draft = new") || line.startsWith("private byte[] text = new byte[0]"), true);
        }
    }

    private static void classes() {
        Class<?>[] inside = HandHeirs.class.getDeclaredClasses();
        Check.due("some twelve classes", inside.length + 1 <= 12, true);
        for (Class<?> c : inside) {
            Check.due("is static: " + c, Modifier.isStatic(c.getModifiers()), true);
            int fields = 0;
            for (Field f : c.getDeclaredFields()) {
                boolean fixed = Modifier.isStatic(f.getModifiers());
                fields += fixed ? 0 : 1;
                Check.due("static is final: " + f, !fixed || Modifier.isFinal(f.getModifiers()), true);
            }
            Check.due("some twenty fields: " + c, fields <= 20, true);
            for (Method m : c.getDeclaredMethods()) {
                Check.due("seven parameters: " + m, m.getParameterCount() <= 7, true);
            }
        }
    }

    /** No call makes anything (see words), so what a new object takes is all; as many of them as one may have calls must fit. */
    private static void room() throws Exception {
        int objects = 0;
        int elements = 0;
        Set<Object> seen = Collections.newSetFromMap(new IdentityHashMap<>());
        Deque<Object> open = new ArrayDeque<>(List.of(new HandHeirs()));
        while (!open.isEmpty()) {
            Object one = open.pop();
            if (!seen.add(one)) {
                continue;
            }
            objects++;
            List<Object> parts = partsOf(one);
            elements += parts.size();
            parts.stream().filter(p -> p != null && (p.getClass().isArray() || p.getClass().getNestHost() == HandHeirs.class)).forEach(open::push);
        }
        Check.due("objects and arrays of 512 new objects: 512 * " + objects, 512 * objects <= 600_000, true);
        Check.due("fields and elements of 512 new objects: 512 * " + elements, 512 * elements <= 7_300_000, true);
    }

    private static List<Object> partsOf(Object one) throws Exception {
        List<Object> parts = new ArrayList<>();
        if (one.getClass().isArray()) {
            for (int i = 0; i < Array.getLength(one); i++) {
                parts.add(Array.get(one, i));
            }
            return parts;
        }
        for (Field f : one.getClass().getDeclaredFields()) {
            if (!Modifier.isStatic(f.getModifiers())) {
                f.setAccessible(true);
                parts.add(f.get(one));
            }
        }
        return parts;
    }

    /** Any numbers in any state: what the machine throws would end this test. */
    private static void anythingGoes() throws Exception {
        Random dice = new Random(5);
        int[] edges = {Integer.MIN_VALUE, Integer.MIN_VALUE + 1, -1000000, -3, -2, -1, 0, 1, 2, 3, 5, 6, 7, 9, 12, 13, 19, 20, 30, 49,
            50, 51, 98, 99, 100, 101, 199, 200, 399, 400, 401, 1999, 2000, 2001, 1000000, Integer.MAX_VALUE - 1, Integer.MAX_VALUE};
        Method[] methods = Arrays.stream(HandHeirs.class.getDeclaredMethods())
            .filter(m -> Modifier.isPublic(m.getModifiers())).sorted((a, b) -> a.getName().compareTo(b.getName())).toArray(Method[]::new);
        String[] texts = {"", "letter a 5;", "heir a 5 5;", "master a = 1/off;",
            "letter a 0; letter b 99; letter c 1; letter d 2; letter e 3; letter f 4; heir g 99 9 1 2 3 4 5 6; heir h 0 9; heir i 1 0;"
            + "heir j 7 7; heir k 7 7; heir l 7 7; master m = 9999*9999*9999*own/(off-1); master n = if own < worn then year else off;"
            + "master o = 0 - off; learn g = 0-2048*1024*1024*(day + 1) - year; learn h = 2048*1024*1024 - 1; drift = (own - hand)*(1 - letter);"
            + "days 9; limit 400; seed 9999;"};
        for (int run = 0; run < 40; run++) {
            HandHeirs x = new HandHeirs();
            Check.readText(x, texts[run % texts.length]);
            for (int call = 0; call < 400; call++) {
                Method m = methods[dice.nextInt(methods.length)];
                if (m.getName().equals("read") && dice.nextInt(30) > 0) {
                    continue;
                }
                Object[] given = new Object[m.getParameterCount()];
                for (int i = 0; i < given.length; i++) {
                    given[i] = dice.nextInt(2) == 0 ? edges[dice.nextInt(edges.length)] : dice.nextInt(6);
                }
                Object answer = m.invoke(x, given);
                Check.due(m.getName() + " answers", answer != null, true);
            }
        }
    }
}
