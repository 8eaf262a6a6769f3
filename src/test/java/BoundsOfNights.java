import java.math.BigInteger;

/** Promises 27 to 29. */
final class BoundsOfNights extends Bounds {
    BoundsOfNights() {
        holds("27", "n times (1 to 20) two draws", () -> {
            range("n", 1, 20, n -> new EveningCloak().night(n));
            for (int n = 1; n <= 20; n += 19) {
                EveningCloak x = new EveningCloak();
                x.night(n);
                due("days of " + n + " nights", x.count(0), n);
                due("z behind " + n + " nights", x.count(6), drawn(2 * n));
            }
        });
        holds("27", "THE LIST tells for this DAY a STAND of the GIRL of the first one's rest by 6 by the HANGER of the second one's rest by 16; "
            + "then a DAY: MET of all together then. BEYOND.", this::nights);
        holds("27", "STATE: DAY would be above 99999.", () -> {
            EveningCloak x = onDay(99979, new EveningCloak());
            due("to the last day", x.night(20), 0);
            due("the last day", x.count(0), 99999);
            due("behind it", x.night(1), STATE);
            EveningCloak y = onDay(99980, new EveningCloak());
            due("one too many", y.night(20), STATE);
            due("no day went by", y.count(0), 99980);
            due("nothing was drawn", y.count(6), 1);
            due("one fewer", y.night(19), 0);
        });
        holds("28", "The odds that at n (0 to 15) HANGERS, each the rest by 16 of a draw, it is always LIGHT (above 0) now", () -> {
            range("n", 0, 15, n -> room("dusk").odds(n, 0));
            due("of none, in the dark", new EveningCloak().odds(0, 0), 1);
            due("of one, in the dark", new EveningCloak().odds(1, 0), 0);
            // Hangers 0 to 3 have light, the last of them 1.
            due("a quarter", room("dusk").odds(1, 1), 4);
            due("a quarter, 15 times", room("dusk").odds(15, 1), 1L << 30);
        });
        holds("28", "a fraction in lowest terms: above (what 0), below the line (1). BEYOND.", () -> {
            range("what", 0, 1, what -> room("dusk").odds(1, what));
            for (int light = 0; light <= 16; light++) fractions(light);
        });
        holds("29", "z becomes v: what it was.", () -> {
            EveningCloak x = new EveningCloak();
            int[] told = {LEAST, MOST, 0, -1, BEYOND};
            int was = 1;
            for (int v : told) {
                due("before " + v, x.seed(v), was);
                due("z", x.count(6), v);
                was = v;
            }
            due("no findings", x.status(-1), 0);
        });
    }

    /** z behind so many draws from 1, by numbers too great to wrap around. */
    private static int drawn(int draws) {
        BigInteger z = BigInteger.ONE;
        for (int i = 0; i < draws; i++) {
            z = z.multiply(BigInteger.valueOf(1103515245)).add(BigInteger.valueOf(12345)).mod(BigInteger.ONE.shiftLeft(32));
        }
        return z.intValue();
    }

    private static int rest(int draws, int by) {
        return (drawn(draws) >>> 8) % by;
    }

    private void nights() {
        EveningCloak x = new EveningCloak();
        int[] list = new int[6];
        for (int day = 0; day < 14; day++) {
            x.night(1);
            list[day % 6] = 100 * rest(2 * day + 1, 6) + rest(2 * day + 2, 16);
            for (int i = 0; i < 6; i++) due("place " + i + " behind day " + day, x.listed(i), list[i]);
        }
        EveningCloak y = room("moon on 6 worn 99", "girl hope 1;girl hope 1;girl hope 1;girl hope 1;girl hope 1;girl hope 1");
        due("light everywhere: every night somebody", y.night(20), 20);
        due("met of all", y.count(4), 20);
        // From 1 the first stand is of girl 2 by hanger 0.
        EveningCloak z = room("topper", "girl hope 3;girl hope 3");
        due("of a girl who isn't there", z.night(1), 0);
        EveningCloak u = room("topper", "girl hope 3;girl hope 3;girl hope 3");
        due("the stand is told before the day", u.night(1), 1);
        due("met by her", u.ofGirl(2, 2), 1);
    }

    /** So many hangers with light, by a moon at one end and toppers. */
    private static EveningCloak lit(int hangers) {
        EveningCloak x = new EveningCloak();
        int from = 0;
        if (hangers > 8) {
            x.deposit(MOON, 0);
            x.change(0, 4, hangers == 9 ? 79 : 99);
            from = hangers == 9 ? 9 : 10;
        }
        for (int h = from; h < hangers; h++) x.deposit(TOPPER, h);
        return x;
    }

    private void fractions(int light) {
        EveningCloak x = lit(light);
        due("so many with light", 16 - Integer.bitCount(x.now(4)), light);
        for (int n = 0; n <= 15; n++) {
            BigInteger above = BigInteger.valueOf(light).pow(n);
            BigInteger below = BigInteger.valueOf(16).pow(n);
            BigInteger cut = above.gcd(below);
            due(light + " by 16, " + n + " times, above", x.odds(n, 0), above.divide(cut).longValueExact());
            due(light + " by 16, " + n + " times, below", x.odds(n, 1), below.divide(cut).longValueExact());
        }
    }
}
