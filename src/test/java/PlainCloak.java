import java.math.BigInteger;
import java.util.ArrayList;
import java.util.Arrays;
import java.util.List;
import java.util.function.Consumer;
import java.util.function.ToIntFunction;
import java.util.regex.Matcher;
import java.util.regex.Pattern;

/**
 * The document a second time, for tests: with kinds as classes, copies instead of trial rows, texts
 * by patterns, and every search by trying all that there is. Slow, and not like EveningCloak within.
 */
final class PlainCloak {
    private static final int LOW = -1000001;
    private static final String[] NAMES = {"coat", "evening", "hat", "dusk", "moon", "umbrella", "topper"};

    /** A finding on its way to the answer. */
    private static final class Found extends RuntimeException {
        final int which;

        Found(int which) {
            super(null, null, false, false);
            this.which = which;
        }
    }

    private static class Coat {
        int shines(Deposit d) { return 0; }
        int reaches(Deposit d) { return 0; }
        int wears(Deposit d, World w) { return 1; }
        int costs() { return 2; }
    }

    private static class Evening extends Coat {
        @Override int shines(Deposit d) { return Math.min(50, 20 + d.v[3] / 10); }
        @Override int reaches(Deposit d) { return 3; }
        @Override int wears(Deposit d, World w) { return 0; }
        @Override int costs() { return 0; }
    }

    private static class Dusk extends Evening {
        @Override int shines(Deposit d) { return super.shines(d) / 2; }
        @Override int reaches(Deposit d) { return super.reaches(d) + 2; }
        @Override int wears(Deposit d, World w) { return super.wears(d, w) + (w.day % 2 == 1 ? 1 : 0); }
    }

    private static final class Moon extends Dusk {
        @Override int shines(Deposit d) { return super.shines(d) + d.v[4]; }
        @Override int reaches(Deposit d) { return super.reaches(d) + d.v[4] / 20; }
        @Override int wears(Deposit d, World w) { return super.wears(d, w) + 1; }
    }

    private static class Hat extends Coat {
        @Override int wears(Deposit d, World w) { return super.wears(d, w) - 1; }
        @Override int costs() { return super.costs() / 2; }
    }

    private static final class Topper extends Hat {
        @Override int shines(Deposit d) { return 3; }
        @Override int costs() { return 3 * super.costs(); }
    }

    private static final class Umbrella extends Coat {
        @Override int wears(Deposit d, World w) { return super.wears(d, w) + (w.light(d.v[1]) > 0 ? 1 : 0); }
        @Override int costs() { return super.costs() - 1; }
    }

    private static final Coat[] KINDS = {
        new Coat(), new Evening(), new Hat(), new Dusk(), new Moon(), new Umbrella(), new Topper()};

    /** KIND, HANGER, STUB, KEPT, WORN, OUT. */
    private static final class Deposit {
        final int[] v;

        Deposit(int... v) { this.v = v; }
        Coat kind() { return KINDS[v[0]]; }
        boolean isOut() { return v[5] == 1; }

        int tell(int what, World w) {
            switch (what) {
                case 6: return kind().shines(this);
                case 7: return kind().reaches(this);
                case 8: return kind().wears(this, w);
                case 9: return kind().costs();
                default: return v[what];
            }
        }
    }

    private static final class World {
        int day = 0;
        int fees = 0;
        int z = 1;
        int[] list = new int[6];
        List<Deposit> deposits = new ArrayList<>();
        /** DREAM, HOPE, MET. */
        List<int[]> girls = new ArrayList<>();
        int[] spots = {-1, -1, -1, -1, -1, -1, -1, -1, -1, -1};

        World copied() {
            World w = new World();
            w.day = day;
            w.fees = fees;
            w.z = z;
            w.list = list.clone();
            for (Deposit d : deposits) w.deposits.add(new Deposit(d.v.clone()));
            for (int[] g : girls) w.girls.add(g.clone());
            w.spots = spots.clone();
            return w;
        }

        int light(int h) {
            int sum = 0;
            for (Deposit d : deposits) {
                if (d.isOut()) continue;
                for (int at = d.v[1] - d.kind().reaches(d); at <= d.v[1] + d.kind().reaches(d); at++) {
                    int given = d.kind().shines(d) - 3 * Math.abs(at - d.v[1]);
                    if (at == h && given > 0) sum += given;
                }
            }
            return sum;
        }

        int cost() {
            return deposits.stream().filter(d -> !d.isOut()).mapToInt(d -> d.kind().costs()).sum();
        }

        int met() { return girls.stream().mapToInt(g -> g[2]).sum(); }

        void aDay() {
            int stand = list[day % 6];
            if (stand / 100 < girls.size()) {
                int[] g = girls.get(stand / 100);
                g[0] += light(stand % 100);
                if (g[0] > 99) g[0] = 99;
                if (g[0] >= g[1]) {
                    if (g[2] < 9999) g[2]++;
                    g[0] = 0;
                }
            }
            fees += cost();
            if (fees > 99999) fees = 99999;
            for (Deposit d : deposits) {
                if (d.isOut()) continue;
                d.v[4] = Math.min(99, d.v[4] + d.kind().wears(d, this));
                d.v[3] = Math.min(9999, d.v[3] + 1);
            }
            if (day < 99999) day++;
        }

        World behind(int n) {
            World w = copied();
            for (int i = 0; i < n; i++) w.aDay();
            return w;
        }

        World with(Consumer<World> change) {
            World w = copied();
            change.accept(w);
            return w;
        }

        int draw() {
            z = z * 1103515245 + 12345;
            return z >>> 8;
        }
    }

    private World world = new World();
    private World image = null;
    private final List<Integer> tape = new ArrayList<>();
    private final long[][] sheets = new long[4][];
    private final int[] bits = new int[4];
    private final int[] found = new int[7];

    /** Tells one call of the face, by its name. */
    long tell(String name, int... a) {
        try {
            return answer(name, a);
        } catch (Found f) {
            found[f.which]++;
            return LOW - f.which;
        }
    }

    private static void ask(boolean fine, int which) {
        if (!fine) throw new Found(which);
    }

    private static void in(int v, int least, int most) {
        ask(v >= least && v <= most, 0);
    }

    private Deposit dep(int d) {
        in(d, 0, world.deposits.size() - 1);
        return world.deposits.get(d);
    }

    private int[] gir(int g) {
        in(g, 0, world.girls.size() - 1);
        return world.girls.get(g);
    }

    private long[] shee(int s) {
        in(s, 0, 3);
        ask(sheets[s] != null, 5);
        return sheets[s];
    }

    private long answer(String name, int[] a) {
        switch (name) {
            case "stand": case "listed": case "deposit": case "girl": case "of": case "change":
            case "ofGirl": case "wake": case "light": case "call":
                return cloakroom(name, a);
            case "go": case "now": case "ahead": case "later": case "dawn": case "meets":
            case "threadbare": case "earns":
                return days(name, a);
            case "hangFor": case "standFor": case "kindFor": case "hopeFor": case "giveOut":
            case "fits": case "kinds":
                return plans(name, a);
            case "night": case "odds": case "seed": case "feed": case "wipe": case "text":
                return nightsAndTexts(name, a);
            case "hold": case "as": case "sheet": case "write": case "copy": case "load": case "judge":
                return spotsAndSheets(name, a);
            default:
                return images(name, a);
        }
    }

    private long cloakroom(String name, int[] a) {
        int was;
        switch (name) {
            case "stand":
                in(a[0], 0, 5);
                in(a[1], 0, 5);
                in(a[2], 0, 15);
                was = world.list[a[0]];
                world.list[a[0]] = 100 * a[1] + a[2];
                return was;
            case "listed":
                in(a[0], 0, 5);
                return world.list[a[0]];
            case "deposit":
                in(a[0], 0, 6);
                in(a[1], 0, 15);
                ask(world.deposits.size() < 8, 1);
                world.deposits.add(new Deposit(a[0], a[1], 10 * world.deposits.size(), 0, 0, 0));
                return world.deposits.size() - 1;
            case "girl":
                in(a[0], 1, 99);
                ask(world.girls.size() < 6, 1);
                world.girls.add(new int[] {0, a[0], 0});
                return world.girls.size() - 1;
            case "of":
                in(a[1], 0, 9);
                return dep(a[0]).tell(a[1], world);
            case "change":
                in(a[1], 0, 5);
                in(a[2], 0, new int[] {6, 15, 99, 9999, 99, 1}[a[1]]);
                was = dep(a[0]).v[a[1]];
                dep(a[0]).v[a[1]] = a[2];
                return was;
            case "ofGirl":
                in(a[1], 0, 2);
                return gir(a[0])[a[1]];
            case "wake":
                in(a[1], 0, 2);
                in(a[2], a[1] == 1 ? 1 : 0, a[1] == 2 ? 9999 : 99);
                was = gir(a[0])[a[1]];
                gir(a[0])[a[1]] = a[2];
                return was;
            case "light":
                in(a[0], 0, 15);
                return world.light(a[0]);
            default:
                in(a[0], 0, 99);
                for (int d = 0; d < world.deposits.size(); d++) {
                    Deposit x = world.deposits.get(d);
                    if (x.v[2] == a[0] && !x.isOut()) {
                        x.v[5] = 1;
                        return d;
                    }
                }
                throw new Found(3);
        }
    }

    private long days(String name, int[] a) {
        switch (name) {
            case "go":
                in(a[0], 1, 60);
                ask(world.day + a[0] <= 99999, 4);
                world = world.behind(a[0]);
                return world.fees;
            case "now":
                return now(a[0]);
            case "ahead":
                dep(a[0]);
                ask(a[1] == 3 || a[1] == 4 || a[1] == 6 || a[1] == 7, 0);
                in(a[2], 0, 100);
                World w = world.behind(a[2]);
                return w.deposits.get(a[0]).tell(a[1], w);
            case "later":
                gir(a[0]);
                ask(a[1] == 0 || a[1] == 2, 0);
                in(a[2], 0, 100);
                return world.behind(a[2]).girls.get(a[0])[a[1]];
            case "dawn":
                in(a[0], 0, 15);
                in(a[1], 0, 100);
                return world.behind(a[1]).light(a[0]);
            case "meets":
                gir(a[0]);
                in(a[1], 0, 9999);
                return first(x -> x.girls.get(a[0])[2], a[1]);
            case "threadbare":
                dep(a[0]);
                in(a[1], 0, 99);
                return first(x -> x.deposits.get(a[0]).v[4], a[1]);
            default:
                in(a[0], 0, 99999);
                return first(x -> x.fees, a[0]);
        }
    }

    private long now(int what) {
        in(what, 0, 7);
        int dark = 0;
        int lightest = 15;
        for (int h = 15; h >= 0; h--) {
            if (world.light(h) == 0) dark += 1 << h;
            if (world.light(h) >= world.light(lightest)) lightest = h;
        }
        int out = 0;
        for (int d = 0; d < world.deposits.size(); d++) out += world.deposits.get(d).v[5] << d;
        int dreams = world.girls.stream().mapToInt(g -> g[0]).sum();
        return new int[] {world.day, world.fees, world.met(), out, dark, lightest, world.cost(), dreams}[what];
    }

    private int first(ToIntFunction<World> told, int v) {
        World w = world.copied();
        for (int n = 0; n <= 200; n++) {
            if (told.applyAsInt(w) >= v) return n;
            w.aDay();
        }
        throw new Found(3);
    }

    private long plans(String name, int[] a) {
        int n = a[a.length - 1];
        switch (name) {
            case "hangFor":
                dep(a[0]);
                in(n, 0, 40);
                return best(16, n, (w, h) -> w.deposits.get(a[0]).v[1] = h);
            case "standFor":
                in(a[0], 0, 5);
                in(n, 0, 40);
                return best(16, n, (w, h) -> w.list[a[0]] = w.list[a[0]] - w.list[a[0]] % 100 + h);
            case "kindFor":
                dep(a[0]);
                in(n, 0, 40);
                return best(7, n, (w, k) -> w.deposits.get(a[0]).v[0] = k);
            case "hopeFor":
                int met = gir(a[0])[2];
                in(n, 0, 40);
                for (int hope = 99; hope >= 1; hope--) {
                    int h = hope;
                    if (world.with(w -> w.girls.get(a[0])[1] = h).behind(n).girls.get(a[0])[2] > met) return h;
                }
                throw new Found(3);
            case "giveOut":
                in(n, 0, 20);
                return giveOut(n);
            case "fits":
                return told(shee(a[0]), a[1], 16, 1);
            default:
                return told(shee(a[0]), a[1], 7, 0);
        }
    }

    private interface Option {
        void take(World w, int option);
    }

    private int best(int options, int n, Option option) {
        int best = options - 1;
        int most = -1;
        for (int o = options - 1; o >= 0; o--) {
            int take = o;
            int met = world.with(w -> option.take(w, take)).behind(n).met();
            if (met >= most) {
                most = met;
                best = o;
            }
        }
        return best;
    }

    private int giveOut(int n) {
        int best = -1;
        for (int set = 0; set < 1 << world.deposits.size(); set++) {
            if (best >= 0 && Integer.bitCount(set) >= Integer.bitCount(best)) continue;
            int given = set;
            World w = world.with(x -> {
                for (int d = 0; d < x.deposits.size(); d++) if ((given & 1 << d) != 0) x.deposits.get(d).v[5] = 1;
            });
            if (w.behind(n).met() == world.met()) best = set;
        }
        ask(best >= 0, 3);
        return best;
    }

    private int told(long[] sheet, int d, int options, int what) {
        dep(d);
        int set = 0;
        for (int o = 0; o < options; o++) {
            int take = o;
            World w = world.with(x -> x.deposits.get(d).v[what] = take);
            boolean fine = true;
            for (int i = 0; i < 8 && i < sheet.length; i++) {
                fine &= sheet[i] == -1 || sheet[i] == w.behind(i).light(0);
            }
            if (fine) set += 1 << o;
        }
        return set;
    }

    private long nightsAndTexts(String name, int[] a) {
        switch (name) {
            case "night":
                in(a[0], 1, 20);
                ask(world.day + a[0] <= 99999, 4);
                for (int i = 0; i < a[0]; i++) {
                    int girl = world.draw() % 6;
                    int hanger = world.draw() % 16;
                    world.list[world.day % 6] = 100 * girl + hanger;
                    world.aDay();
                }
                return world.met();
            case "odds":
                in(a[0], 0, 15);
                in(a[1], 0, 1);
                int light = 0;
                for (int h = 0; h < 16; h++) if (world.light(h) > 0) light++;
                BigInteger above = BigInteger.valueOf(light).pow(a[0]);
                BigInteger below = BigInteger.valueOf(16).pow(a[0]);
                BigInteger cut = above.gcd(below);
                return (a[1] == 0 ? above : below).divide(cut).longValueExact();
            case "seed":
                int was = world.z;
                world.z = a[0];
                return was;
            case "feed":
                in(a[1], 1, 4);
                ask(tape.size() + a[1] <= 120, 1);
                byte[] four = {(byte) (a[0] >> 24), (byte) (a[0] >> 16), (byte) (a[0] >> 8), (byte) a[0]};
                for (int i = 4 - a[1]; i < 4; i++) tape.add(four[i] & 255);
                return tape.size();
            case "wipe":
                int had = tape.size();
                tape.clear();
                return had;
            default:
                return text();
        }
    }

    private static final Pattern TOKEN = Pattern.compile("[a-z]+|[0-9]+|[^ ]", Pattern.DOTALL);

    private final List<String> tokens = new ArrayList<>();
    private final List<Integer> places = new ArrayList<>();
    private int at;

    private static final class Fault extends RuntimeException {
        Fault() { super(null, null, false, false); }
    }

    private int text() {
        StringBuilder all = new StringBuilder();
        for (int b : tape) all.append((char) b);
        tape.clear();
        tokens.clear();
        places.clear();
        Matcher m = TOKEN.matcher(all);
        while (m.find()) {
            tokens.add(m.group());
            places.add(m.start());
        }
        tokens.add("");
        places.add(all.length());
        at = 0;
        World w = world.copied();
        int items = 0;
        try {
            do {
                item(w);
                items++;
            } while (perhaps(";"));
            if (!tokens.get(at).isEmpty()) throw new Fault();
        } catch (Fault f) {
            return -1 - places.get(at);
        }
        world = w;
        return items;
    }

    private boolean perhaps(String token) {
        boolean is = tokens.get(at).equals(token);
        if (is) at++;
        return is;
    }

    private int number(int least, int most) {
        String t = tokens.get(at);
        if (!t.matches("[0-9]+")) throw new Fault();
        BigInteger v = new BigInteger(t);
        if (v.compareTo(BigInteger.valueOf(least)) < 0 || v.compareTo(BigInteger.valueOf(most)) > 0) throw new Fault();
        at++;
        return v.intValue();
    }

    private void item(World w) {
        int kind = Arrays.asList(NAMES).indexOf(tokens.get(at));
        if (kind >= 0) {
            if (w.deposits.size() == 8) throw new Fault();
            at++;
            Deposit d = new Deposit(kind, 0, 10 * w.deposits.size(), 0, 0, 0);
            if (perhaps("on")) d.v[1] = number(0, 15);
            if (perhaps("stub")) d.v[2] = number(0, 99);
            if (perhaps("kept")) d.v[3] = number(0, 9999);
            if (perhaps("worn")) d.v[4] = number(0, 99);
            if (perhaps("out")) d.v[5] = 1;
            w.deposits.add(d);
        } else if (tokens.get(at).equals("girl")) {
            if (w.girls.size() == 6) throw new Fault();
            at++;
            w.girls.add(new int[] {0, perhaps("hope") ? number(1, 99) : 50, 0});
        } else if (perhaps("stand")) {
            int i = number(0, 5);
            int girl = number(0, 5);
            w.list[i] = 100 * girl + number(0, 15);
        } else {
            throw new Fault();
        }
    }

    private long spotsAndSheets(String name, int[] a) {
        switch (name) {
            case "hold":
                in(a[0], 0, 9);
                if (a[1] != -1) dep(a[1]);
                world.spots[a[0]] = a[1];
                return 1;
            case "as":
                in(a[0], 0, 9);
                in(a[1], 0, 6);
                ask(world.spots[a[0]] >= 0, 5);
                ask(KINDS[a[1]].getClass().isInstance(dep(world.spots[a[0]]).kind()), 2);
                return world.spots[a[0]];
            case "sheet":
                in(a[0], 0, 3);
                ask(a[1] == 0 || a[1] == 8 || a[1] == 16 || a[1] == 32, 0);
                ask(a[2] >= 0, 6);
                in(a[2], 0, 40);
                sheets[a[0]] = a[1] == 0 ? null : new long[a[2]];
                bits[a[0]] = a[1];
                return a[1] == 0 ? 0 : a[2];
            case "write":
                long[] row = shee(a[0]);
                in(a[1], 0, row.length - 1);
                row[a[1]] = a[2] << 32 - bits[a[0]] >> 32 - bits[a[0]];
                return 1;
            case "copy":
                return copy(a[0], a[1], a[2], a[3], a[4]);
            case "load":
                long[] stubs = shee(a[0]);
                int came = 0;
                while (came < stubs.length && came < world.deposits.size() && stubs[came] >= 0 && stubs[came] <= 99) {
                    world.deposits.get(came).v[2] = (int) stubs[came];
                    came++;
                }
                return came;
            default:
                long[] read = shee(a[0]);
                for (int i = 0; i < read.length; i++) {
                    if (i >= world.deposits.size() || world.deposits.get(i).v[4] != read[i]) return 1 + i;
                }
                return 0;
        }
    }

    private long copy(int s, int from, int t, int to, int n) {
        in(s, 0, 3);
        in(t, 0, 3);
        ask(sheets[s] != null && sheets[t] != null, 5);
        ask(bits[s] == bits[t], 2);
        ask(from >= 0 && to >= 0 && n >= 0, 0);
        ask((long) from + n <= sheets[s].length && (long) to + n <= sheets[t].length, 0);
        long[] were = sheets[s].clone();
        for (int i = 0; i < n; i++) sheets[t][to + i] = were[from + i];
        return n;
    }

    private long images(String name, int[] a) {
        switch (name) {
            case "image":
                image = world.copied();
                return 1;
            case "undo":
                ask(image != null, 3);
                world = image.copied();
                return world.day;
            case "tear":
                int was = image == null ? 0 : 1;
                image = null;
                return was;
            case "count":
                in(a[0], 0, 7);
                int held = (int) Arrays.stream(world.spots).filter(x -> x >= 0).count();
                return new int[] {world.day, world.deposits.size(), world.girls.size(), world.fees, world.met(),
                    tape.size(), world.z, held}[a[0]];
            case "status":
                in(a[0], -1, 6);
                return a[0] == -1 ? Arrays.stream(found).sum() : found[a[0]];
            default:
                throw new IllegalStateException(name);
        }
    }
}
