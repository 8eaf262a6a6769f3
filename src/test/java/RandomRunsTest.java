import java.lang.reflect.InvocationTargetException;
import java.lang.reflect.Method;
import java.util.ArrayList;
import java.util.Arrays;
import java.util.List;
import java.util.Random;

/** Random runs of calls: each answer must be PlainCloak's, and no call may throw. */
public final class RandomRunsTest {
    private static final int RUNS = 2500;
    private static final int CALLS = 400;
    private static final int[] EDGES = {Integer.MIN_VALUE, -1000001, -2, -1, 0, 1, 7, 8, 15, 16, 20, 21, 40, 41,
        60, 61, 99, 100, 101, 255, 256, 9999, 10000, 99999, 100000, 65535, Integer.MAX_VALUE};

    private final Random random;
    private final EveningCloak cloak = new EveningCloak();
    private final PlainCloak plain = new PlainCloak();
    private final List<String> told = new ArrayList<>();
    private final boolean wild;

    private RandomRunsTest(long seed) {
        random = new Random(seed);
        wild = seed % 7 == 0;
    }

    public static void main(String[] args) throws Exception {
        long[] answered = new long[8];
        for (int run = 0; run < RUNS; run++) {
            RandomRunsTest test = new RandomRunsTest(run);
            if (!test.go()) {
                System.out.println("run " + run + " is wrong at its last call:");
                int from = Math.max(0, test.told.size() - 60);
                System.out.println(String.join("\n", test.told.subList(from, test.told.size())));
                System.exit(1);
            }
            for (int i = 0; i < 7; i++) answered[i] += test.plain.tell("status", i);
        }
        System.out.println(RUNS + " random runs are as due; findings " + Arrays.toString(answered));
    }

    private boolean go() throws Exception {
        Method[] methods = EveningCloak.class.getDeclaredMethods();
        List<Method> face = new ArrayList<>();
        for (Method m : methods) if (java.lang.reflect.Modifier.isPublic(m.getModifiers())) face.add(m);
        face.sort((a, b) -> a.getName().compareTo(b.getName()));
        for (int i = 0; i < 6 && !wild; i++) if (!fill()) return false;
        while (told.size() < CALLS) {
            int dice = random.nextInt(20);
            if (dice == 0 && !write(randomText())) return false;
            if (dice == 1 && !tellLight()) return false;
            Method m = face.get(random.nextInt(face.size()));
            if (rare(m.getName()) && random.nextInt(6) != 0) continue;
            if (!same(m.getName(), arguments(m))) return false;
        }
        return true;
    }

    /** Calls that would empty what the others need. */
    private static boolean rare(String name) {
        return Arrays.asList("wipe", "tear", "undo", "feed", "text", "call").contains(name);
    }

    private boolean fill() throws Exception {
        boolean fine = same("deposit", random.nextInt(7), random.nextInt(16));
        fine = fine && same("girl", 1 + random.nextInt(99));
        return fine && same("stand", random.nextInt(6), random.nextInt(4), random.nextInt(16));
    }

    private int[] arguments(Method m) {
        int[] a = new int[m.getParameterCount()];
        for (int i = 0; i < a.length; i++) a[i] = argument(m.getName(), i);
        if (m.getName().equals("change") && random.nextInt(3) != 0) a[2] = random.nextInt(a[1] == 3 ? 600 : 100);
        if (m.getName().equals("change") && a[1] == 5) a[2] = random.nextInt(2);
        return a;
    }

    private int argument(String name, int i) {
        if (random.nextInt(wild ? 3 : 25) == 0) return EDGES[random.nextInt(EDGES.length)];
        switch (name + i) {
            case "ahead1": return new int[] {3, 4, 6, 7}[random.nextInt(4)];
            case "later1": return 2 * random.nextInt(2);
            case "ahead2": case "later2": case "dawn1": return random.nextInt(101);
            case "hangFor1": case "standFor1": case "kindFor1": case "hopeFor1": return random.nextInt(41);
            case "giveOut0": return random.nextInt(21);
            case "go0": return 1 + random.nextInt(random.nextInt(4) == 0 ? 60 : 5);
            case "night0": return 1 + random.nextInt(20);
            case "girl0": case "wake2": case "threadbare1": return random.nextInt(100);
            case "earns0": return random.nextInt(3000);
            case "sheet1": return new int[] {0, 8, 8, 16, 16, 32, 32}[random.nextInt(7)];
            case "sheet2": return random.nextInt(42);
            case "write2": return random.nextInt(4) == 0 ? random.nextInt() : random.nextInt(120);
            case "seed0": case "feed0": return random.nextInt();
            case "call0": return 10 * random.nextInt(8);
            default: return random.nextInt(random.nextInt(3) == 0 ? 16 : 7);
        }
    }

    /** A sheet that tells light as it is, somewhat, so that fits and kinds have something to find. */
    private boolean tellLight() throws Exception {
        int s = random.nextInt(4);
        int n = random.nextInt(11);
        boolean fine = same("sheet", s, random.nextBoolean() ? 32 : 8, n);
        for (int i = 0; i < n && fine; i++) {
            fine = same("write", s, i, random.nextInt(4) == 0 ? -1 : cloak.dawn(0, i) + random.nextInt(20) / 19);
        }
        int deposit = random.nextInt(8);
        return fine && same("fits", s, deposit) && same("kinds", s, deposit) && same("judge", s);
    }

    private boolean write(String text) throws Exception {
        if (!same("wipe")) return false;
        int i = 0;
        while (i < text.length()) {
            int n = Math.min(1 + random.nextInt(4), text.length() - i);
            int bytes = random.nextInt();
            for (int k = 0; k < n; k++) bytes = bytes << 8 | text.charAt(i + k);
            if (!same("feed", bytes, n)) return false;
            i += n;
        }
        told.add("  (the tape: " + text + ")");
        return same("text");
    }

    private String randomText() {
        StringBuilder b = new StringBuilder();
        int items = random.nextInt(6);
        for (int i = 0; i <= items; i++) {
            if (i > 0) b.append(blanks(0)).append(';').append(blanks(0));
            item(b);
        }
        if (random.nextInt(3) == 0 && b.length() > 0) spoil(b);
        if (random.nextInt(4) == 0) b.append(blanks(1));
        if (b.length() > 120) b.setLength(120);
        return b.toString();
    }

    private void spoil(StringBuilder b) {
        int at = random.nextInt(b.length());
        String strange = "; az09A~\u0000\u00ff\t-";
        char c = strange.charAt(random.nextInt(strange.length()));
        switch (random.nextInt(3)) {
            case 0: b.setCharAt(at, c); break;
            case 1: b.insert(at, c); break;
            default: b.deleteCharAt(at); break;
        }
    }

    private void item(StringBuilder b) {
        int dice = random.nextInt(10);
        if (dice < 3) {
            b.append("girl");
            if (random.nextBoolean()) b.append(" hope").append(blanks(0)).append(number(100));
        } else if (dice < 6) {
            b.append("stand").append(blanks(0)).append(number(6)).append(blanks(1)).append(number(6));
            b.append(blanks(1)).append(number(16));
        } else {
            b.append(new String[] {"coat", "evening", "hat", "dusk", "moon", "umbrella", "topper"}[random.nextInt(7)]);
            part(b, "on", 16);
            part(b, "stub", 100);
            part(b, "kept", 10000);
            part(b, "worn", 100);
            if (random.nextInt(5) == 0) b.append(blanks(1)).append("out");
        }
    }

    private void part(StringBuilder b, String word, int bound) {
        if (random.nextInt(3) != 0) return;
        b.append(blanks(1)).append(word).append(blanks(0)).append(number(bound));
    }

    private String blanks(int least) {
        return " ".repeat(least + random.nextInt(2));
    }

    private String number(int bound) {
        int v = random.nextInt(30) == 0 ? bound + random.nextInt(2) : random.nextInt(bound);
        return "0".repeat(random.nextInt(8) == 0 ? random.nextInt(6) : 0) + v;
    }

    private boolean same(String name, int... a) throws Exception {
        Class<?>[] types = new Class<?>[a.length];
        Arrays.fill(types, int.class);
        Object[] boxed = new Object[a.length];
        for (int i = 0; i < a.length; i++) boxed[i] = a[i];
        String call = name + Arrays.toString(a);
        long due = plain.tell(name, a);
        long got;
        try {
            got = ((Number) EveningCloak.class.getMethod(name, types).invoke(cloak, boxed)).longValue();
        } catch (InvocationTargetException e) {
            told.add(call + " threw " + e.getCause());
            return false;
        }
        told.add(call + " answered " + got + (got == due ? "" : ", due is " + due));
        return got == due;
    }
}
