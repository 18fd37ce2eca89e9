import java.util.function.Consumer;

/** All that can be seen of an object, to find out whether a call changed anything. */
final class Seen {
    private static final int NONE = HandHeirs.NONE;
    static final String BUSY = "letter a 40; letter b 60; heir x 5 2 30 90; heir y 10 0 45 70; master m = off;"
        + "master n = off * (letter + 1) + worn; drift = (own - hand) / 3; days 2; limit 150; seed 7; learn x = year;";

    private Seen() {
    }

    /** Years and lessons that can be undone, two SLOTS that hold something, two TOLD ones, bytes on the tape. */
    static HandHeirs busy() {
        HandHeirs x = new HandHeirs();
        Check.readText(x, BUSY);
        x.years(1);
        x.lesson(0, 1, 1);
        x.hold(0);
        x.years(2);
        x.tell(0, 40);
        x.tell(1, 60);
        x.hold(2);
        x.lesson(1, 0, 1);
        Check.feedText(x, "letter a 1; letter a");
        return x;
    }

    static String now(HandHeirs x) {
        StringBuilder all = new StringBuilder("counts");
        int[] counts = new int[13];
        for (int what = 0; what <= 12; what++) {
            counts[what] = x.count(what);
            all.append(' ').append(counts[what]);
        }
        for (int letter = 0; letter < counts[0]; letter++) {
            all.append(", hand ").append(x.hand(letter));
        }
        for (int heir = 0; heir < counts[1]; heir++) {
            all.append(", heir ").append(x.heir(heir, 2)).append(' ').append(x.heir(heir, 3)).append(' ').append(x.heir(heir, 4));
            for (int letter = 0; letter < counts[0]; letter++) {
                all.append(' ').append(x.shape(heir, letter, 0));
            }
        }
        for (int year = 0; year < counts[8]; year++) {
            all.append(", book ").append(x.book(year, NONE));
            for (int letter = 0; letter < counts[0]; letter++) {
                all.append(' ').append(x.book(year, letter));
            }
        }
        for (int known = 0; known <= counts[11]; known++) {
            all.append(", dated ").append(x.dated(1, known, NONE));
        }
        return all.append(", judge ").append(x.judge()).append(", place ").append(x.place()).toString();
    }

    /** What is now, what comes with each undo, what the SLOTS hold and what the tape is; the object is used up by it. */
    static String whole(HandHeirs x) {
        StringBuilder all = new StringBuilder(now(x));
        for (int i = 0; i < 30 && x.undo(); i++) {
            all.append("; undone ").append(now(x));
        }
        for (int slot = 0; slot < 3; slot++) {
            all.append("; slot ").append(x.restore(slot)).append(' ').append(now(x));
        }
        return all.append("; tape ").append(x.read()).append(' ').append(x.place()).toString();
    }

    /** Whatever the call answers, an object with it and one without it are alike in all that can be seen. */
    static void nothingHappens(String call, Consumer<HandHeirs> made) {
        HandHeirs with = busy();
        made.accept(with);
        Check.due("nothing happens by " + call, whole(with), whole(busy()));
    }
}
