import java.lang.reflect.Field;
import java.util.ArrayList;
import java.util.List;
import java.util.function.IntToLongFunction;

/**
 * Sentences of the document that name a boundary, each with a test of its own. A sentence is told by
 * where it stands ("T" for the Terms, else the promise's number) and by its words as they stand there.
 */
abstract class Bounds {
    static final int BEYOND = -1000001;
    static final int FULL = -1000002;
    static final int KIND = -1000003;
    static final int NONE = -1000004;
    static final int STATE = -1000005;
    static final int MISSING = -1000006;
    static final int SIZE = -1000007;
    static final int COAT = 0;
    static final int EVENING = 1;
    static final int HAT = 2;
    static final int DUSK = 3;
    static final int MOON = 4;
    static final int UMBRELLA = 5;
    static final int TOPPER = 6;
    static final int LEAST = Integer.MIN_VALUE;
    static final int MOST = Integer.MAX_VALUE;
    static final String[] WORDS = {"coat", "evening", "hat", "dusk", "moon", "umbrella", "topper"};

    static final class Sentence {
        final String where;
        final String words;
        private final Runnable test;

        Sentence(String where, String words, Runnable test) {
            this.where = where;
            this.words = words;
            this.test = test;
        }

        String name() {
            return where + " " + words;
        }
    }

    final List<Sentence> sentences = new ArrayList<>();
    private List<String> wrong = new ArrayList<>();
    int asked = 0;

    static List<Bounds> all() {
        return List.of(new BoundsOfFindings(), new BoundsOfTerms(), new BoundsOfTexts(), new BoundsOfCloakroom(),
            new BoundsOfDays(), new BoundsOfPlans(), new BoundsOfNights(), new BoundsOfSheets(), new BoundsOfImages());
    }

    void holds(String where, String words, Runnable test) {
        sentences.add(new Sentence(where, words, test));
    }

    /** What is wrong with a sentence; nothing if it holds. */
    List<String> wrongOf(Sentence s) {
        wrong = new ArrayList<>();
        try {
            s.test.run();
        } catch (RuntimeException | StackOverflowError e) {
            wrong.add("threw " + e);
        }
        return wrong;
    }

    void due(String what, long got, long want) {
        asked++;
        if (got != want) wrong.add(what + " answered " + got + ", due is " + want);
    }

    /** No finding at both ends, BEYOND on the other side of each, and far off. */
    void range(String what, int least, int most, IntToLongFunction call) {
        int[] fine = {least, most};
        for (int v : fine) {
            long got = call.applyAsLong(v);
            asked++;
            if (got < -1000000) wrong.add(what + " of " + v + " answered the finding " + got);
        }
        int[] bad = {least - 1, most + 1, LEAST, MOST};
        for (int v : bad) due(what + " of " + v, call.applyAsLong(v), BEYOND);
    }

    /** A new object that has been told these texts. */
    static EveningCloak room(String... texts) {
        EveningCloak x = new EveningCloak();
        for (String text : texts) {
            int items = tell(x, text);
            if (items < 1) throw new IllegalStateException("'" + text + "' answered " + items);
        }
        return x;
    }

    static int tell(EveningCloak x, String text) {
        feed(x, text);
        return x.text();
    }

    /** By fours, so that a text takes few of the 512 calls. */
    static void feed(EveningCloak x, String text) {
        for (int i = 0; i < text.length(); i += 4) {
            int n = Math.min(4, text.length() - i);
            int bytes = 0;
            for (int k = 0; k < n; k++) bytes = bytes << 8 | text.charAt(i + k);
            x.feed(bytes, n);
        }
    }

    static EveningCloak eightCoats() {
        return room("coat;coat;coat;coat;coat;coat;coat;coat");
    }

    static EveningCloak sixGirls() {
        return room("girl;girl;girl;girl;girl;girl");
    }

    /**
     * No run of 512 calls comes near to day 99999, so it is put there from within: the one thing
     * about the inside of the object that tests lean on.
     */
    static EveningCloak onDay(int day, EveningCloak x) {
        try {
            Field room = EveningCloak.class.getDeclaredField("room");
            room.setAccessible(true);
            Object inside = room.get(x);
            Field field = inside.getClass().getDeclaredField("day");
            field.setAccessible(true);
            field.setInt(inside, day);
        } catch (ReflectiveOperationException e) {
            throw new IllegalStateException(e);
        }
        return x;
    }
}
