import java.util.function.Function;

/** Promises 20 to 26. */
final class BoundsOfPlans extends Bounds {
    private static final String NOBODY = "stand 0 5 0;stand 1 5 0;stand 2 5 0;stand 3 5 0;stand 4 5 0;stand 5 5 0";

    BoundsOfPlans() {
        hangFor();
        standFor();
        kindFor();
        hopeFor();
        giveOut();
        fits();
        kinds();
    }

    /**
     * She stands on days 3, 9, .., 39, by a light of 3 in all the plans that do: seven stands in 40
     * days, and six in 39.
     */
    private static EveningCloak seventhStand(String deposit, int by, int hope) {
        return room(deposit, "girl hope " + hope, NOBODY, "stand 3 0 " + by);
    }

    private void hangFor() {
        holds("20", "The HANGER on which a DEPOSIT must be now, so that MET of all together is most", () -> {
            range("a deposit of one", 0, 0, d -> room("coat").hangFor(d, 1));
            range("a deposit of eight", 0, 7, d -> eightCoats().hangFor(d, 0));
            due("a deposit of none", new EveningCloak().hangFor(0, 0), BEYOND);
            EveningCloak x = room("evening", "girl hope 11", "girl hope 11", NOBODY, "stand 0 0 2;stand 1 1 8");
            due("where both have light", x.hangFor(0, 2), 5);
            due("where the first has light", x.hangFor(0, 1), 0);
            x.stand(0, 0, 9);
            x.stand(1, 1, 15);
            due("where both have light, far up", x.hangFor(0, 2), 12);
            due("the last", room("topper", "girl hope 3", "stand 0 0 15").hangFor(0, 1), 15);
            due("it hangs where it hung", x.of(0, 1), 0);
        });
        holds("20", "behind n (0 to 40) DAYS. BEYOND.", () -> {
            range("n", 0, 40, n -> room("coat").hangFor(0, n));
            EveningCloak x = seventhStand("topper", 9, 21);
            due("behind 40 days", x.hangFor(0, 40), 9);
            due("behind 39 days", x.hangFor(0, 39), 0);
            due("behind 0 days", x.hangFor(0, 0), 0);
        });
    }

    private void standFor() {
        holds("21", "The HANGER by which place i of THE LIST must let its GIRL stand for that. BEYOND.", () -> {
            range("a place", 0, 5, i -> new EveningCloak().standFor(i, 1));
            range("n", 0, 40, n -> new EveningCloak().standFor(0, n));
            EveningCloak x = seventhStand("topper on 9", 0, 21);
            due("behind 40 days", x.standFor(3, 40), 9);
            due("behind 39 days", x.standFor(3, 39), 0);
            due("of a girl who isn't there", x.standFor(4, 40), 0);
            due("the list stays", x.listed(3), 0);
            EveningCloak y = room("topper on 15", "girl hope 99", "girl hope 3", NOBODY, "stand 0 0 2;stand 5 1 2");
            due("of its own girl, on the last day of the list", y.standFor(5, 6), 15);
            due("before that day", y.standFor(5, 5), 0);
            due("the other's", y.standFor(0, 6), 0);
            y.stand(5, 1, 0);
            due("of its own girl, who stood by the first hanger", y.standFor(5, 6), 15);
            y.stand(5, 1, 15);
            due("of its own girl, who stood by the last hanger", y.standFor(5, 6), 15);
        });
    }

    private void kindFor() {
        holds("22", "The KIND of which a DEPOSIT must be for that. BEYOND.", () -> {
            range("a deposit of one", 0, 0, d -> room("coat").kindFor(d, 1));
            range("a deposit of eight", 0, 7, d -> eightCoats().kindFor(d, 0));
            due("a deposit of none", new EveningCloak().kindFor(0, 0), BEYOND);
            range("n", 0, 40, n -> room("coat").kindFor(0, n));
            // A moon comes to reach 7 on day 27: it gives 30, 39 on day 33, 48 on day 39; no other kind does.
            EveningCloak x = seventhStand("hat", 7, 99);
            due("behind 40 days", x.kindFor(0, 40), MOON);
            due("behind 39 days", x.kindFor(0, 39), COAT);
            due("behind 0 days", x.kindFor(0, 0), COAT);
            due("it stays of its kind", x.of(0, 0), HAT);
            due("a dusk reaches five", room("hat kept 300", "girl hope 10", "stand 0 0 5").kindFor(0, 1), DUSK);
            due("an evening reaches three", room("hat kept 300", "girl hope 41", "stand 0 0 3").kindFor(0, 1), EVENING);
        });
    }

    private void hopeFor() {
        holds("23", "The greatest HOPE (1 to 99) with which MET of a GIRL is more than now", () -> {
            range("a girl of one", 0, 0, g -> room("girl;topper").hopeFor(g, 1));
            range("a girl of six", 0, 5, g -> lit().hopeFor(g, 6));
            due("a girl of none", new EveningCloak().hopeFor(0, 1), BEYOND);
            EveningCloak x = room("moon worn 87", "girl hope 7");
            due("by a light of 97", x.hopeFor(0, 1), 97);
            x.change(0, 4, 88);
            due("by a light of 98", x.hopeFor(0, 1), 98);
            x.change(0, 4, 89);
            due("by a light of 99", x.hopeFor(0, 1), 99);
            x.change(0, 4, 90);
            due("by a light of 100", x.hopeFor(0, 1), 99);
            due("hope stays", x.ofGirl(0, 1), 7);
            due("a light of 1", room("dusk on 3", "girl").hopeFor(0, 1), 1);
        });
        holds("23", "behind n (0 to 40) DAYS. BEYOND.", () -> {
            EveningCloak x = seventhStand("topper", 0, 50);
            int[] none = {-1, 41, LEAST, MOST};
            for (int n : none) due("behind " + n + " days", x.hopeFor(0, n), BEYOND);
            due("behind 40 days", x.hopeFor(0, 40), 21);
            due("behind 39 days", x.hopeFor(0, 39), 18);
            due("behind 4 days", x.hopeFor(0, 4), 3);
            due("behind 3 days", x.hopeFor(0, 3), NONE);
            due("behind 0 days", x.hopeFor(0, 0), NONE);
        });
        holds("23", "NONE.", () -> {
            EveningCloak x = room("girl hope 1");
            due("no light, no dream", x.hopeFor(0, 40), NONE);
            x.wake(0, 0, 1);
            due("no light, but a dream", x.hopeFor(0, 40), 1);
            x.wake(0, 2, 9998);
            due("met all but too often", x.hopeFor(0, 40), 1);
            x.wake(0, 2, 9999);
            due("met too often", x.hopeFor(0, 40), NONE);
            EveningCloak y = room("topper", "girl hope 1", NOBODY);
            y.wake(0, 0, 99);
            due("no stand", y.hopeFor(0, 40), NONE);
        });
    }

    /** Six girls, one for each day, all in light. */
    private static EveningCloak lit() {
        return room("topper;girl;girl;girl;girl;girl;girl", "stand 0 0 0;stand 1 1 0;stand 2 2 0;stand 3 3 0;stand 4 4 0;stand 5 5 0");
    }

    private void giveOut() {
        holds("24", "The set of fewest DEPOSITS such that, if these are given OUT now, too, MET of all together is as now", () -> {
            due("of no deposits", room("girl").giveOut(20), 0);
            due("of no girls", room("topper").giveOut(20), 0);
            EveningCloak all = room("topper;topper;topper;topper;topper;topper;topper;topper", "girl hope 3");
            due("all that there are", all.giveOut(1), 255);
            all.change(7, 5, 1);
            due("all that aren't out", all.giveOut(1), 127);
            all.wake(0, 1, 21);
            due("one of seven", all.giveOut(1), 1);
            all.wake(0, 1, 22);
            due("none of seven", all.giveOut(1), 0);
            // 3, 3 and 7 of light: the third is as good as the first two, which are the lesser set.
            due("fewest before least", room("topper", "topper", "dusk on 1", "girl hope 9").giveOut(1), 4);
            EveningCloak met = room("topper", "girl hope 3");
            met.wake(0, 2, 9998);
            due("met once more", met.giveOut(1), 1);
            met.wake(0, 2, 9999);
            due("met as often as can be", met.giveOut(1), 0);
            due("nothing is given out", met.now(3), 0);
        });
        holds("24", "behind n (0 to 20) DAYS; of several the least. BEYOND.", () -> {
            range("n", 0, 20, n -> room("topper").giveOut(n));
            // On days 1, 7, 13, 19: her fourth stand is the last of 20 days.
            EveningCloak x = room("topper;topper on 1;topper", "girl hope 24", NOBODY, "stand 1 0 0");
            due("behind 20 days", x.giveOut(20), 1);
            due("behind 19 days", x.giveOut(19), 0);
            due("behind 0 days", x.giveOut(0), 0);
            x.change(0, 1, 1);
            x.wake(0, 1, 12);
            due("the last alone", x.giveOut(20), 4);
        });
        holds("24", "NONE.", () -> {
            EveningCloak x = room("topper", "girl hope 9");
            x.wake(0, 0, 8);
            due("a dream below hope", x.giveOut(1), 1);
            x.wake(0, 0, 9);
            due("a dream as great as hope", x.giveOut(1), NONE);
            due("no days", x.giveOut(0), 0);
        });
    }

    /** What a told sheet of so many bits lets fits() or kinds() answer. */
    private static int told(EveningCloak x, int bits, Function<EveningCloak, Integer> ask, int... numbers) {
        x.sheet(3, bits, numbers.length);
        for (int i = 0; i < numbers.length; i++) x.write(3, i, numbers[i]);
        return ask.apply(x);
    }

    private void fits() {
        holds("25", "HANGERS on which a DEPOSIT could be now, as a set, so that LIGHT at HANGER 0 now and behind each DAY further on "
            + "is as a sheet tells (-1: any; the first 8 numbers alone are asked).", this::fitsAsTold);
        holds("25", "BEYOND: no such sheet.", () -> {
            range("a sheet", 0, 3, s -> fourSheets().fits(s, 0));
            due("and no deposit", new EveningCloak().fits(4, 0), BEYOND);
        });
        holds("25", "MISSING.", () -> {
            EveningCloak x = room("coat");
            for (int s = 0; s < 4; s++) due("sheet " + s, x.fits(s, 0), MISSING);
            due("and no deposit", x.fits(0, 1), MISSING);
            x.sheet(0, 8, 0);
            due("an empty one isn't", x.fits(0, 0), 65535);
        });
        holds("25", "BEYOND: no such DEPOSIT.", () -> {
            range("a deposit of one", 0, 0, d -> fourSheets().fits(0, d));
            EveningCloak x = eightCoats();
            x.sheet(0, 8, 0);
            range("a deposit of eight", 0, 7, d -> x.fits(0, d));
        });
    }

    private static EveningCloak fourSheets() {
        EveningCloak x = room("coat");
        for (int s = 0; s < 4; s++) x.sheet(s, 8, 1);
        return x;
    }

    private void fitsAsTold() {
        EveningCloak x = room("evening on 7 kept 9", "coat");
        due("nothing told", told(x, 8, y -> y.fits(3, 0)), 65535);
        due("at hanger 0 now", told(x, 8, y -> y.fits(3, 0), 20), 1);
        due("1 less", told(x, 8, y -> y.fits(3, 0), 19), 0);
        due("1 more", told(x, 8, y -> y.fits(3, 0), 21), 0);
        due("a day further on", told(x, 8, y -> y.fits(3, 0), 20, 21), 1);
        due("as a day before", told(x, 8, y -> y.fits(3, 0), 20, 20), 0);
        due("three off", told(x, 8, y -> y.fits(3, 0), 11, 12), 8);
        due("too far off", told(x, 8, y -> y.fits(3, 0), 0, 0), 65535 - 15);
        due("a coat gives none", told(x, 8, y -> y.fits(3, 1), 0), 65535);
        int[] bits = {8, 16, 32};
        for (int b : bits) {
            due(b + " bits, any", told(x, b, y -> y.fits(3, 0), -1), 65535);
            due(b + " bits, any, then so", told(x, b, y -> y.fits(3, 0), -1, 21), 1);
            due(b + " bits, -2 is none", told(x, b, y -> y.fits(3, 0), -2), 0);
        }
        due("eight", told(x, 8, y -> y.fits(3, 0), 20, 21, 21, 21, 21, 21, 21, 21), 1);
        due("the eighth is asked", told(x, 8, y -> y.fits(3, 0), 20, 21, 21, 21, 21, 21, 21, 22), 0);
        due("the seventh is asked", told(x, 8, y -> y.fits(3, 0), 20, 21, 21, 21, 21, 21, 22, 21), 0);
        due("the ninth isn't", told(x, 8, y -> y.fits(3, 0), 20, 21, 21, 21, 21, 21, 21, 21, 99), 1);
        due("it hangs where it hung", x.of(0, 1), 7);
        due("the last", told(room("coat", "topper"), 8, y -> y.fits(3, 1), 0), 65534);
    }

    private void kinds() {
        holds("26", "KINDS that it could be of, as a set, likewise.", () -> {
            EveningCloak x = room("hat worn 10", "coat on 5");
            int dark = 1 << COAT | 1 << HAT | 1 << UMBRELLA;
            due("nothing told", told(x, 8, y -> y.kinds(3, 0)), 127);
            due("dark", told(x, 8, y -> y.kinds(3, 0), 0), dark);
            due("a topper", told(x, 8, y -> y.kinds(3, 0), 3), 1 << TOPPER);
            due("a dusk", told(x, 8, y -> y.kinds(3, 0), 10), 1 << DUSK);
            due("an evening or a moon", told(x, 8, y -> y.kinds(3, 0), 20), 1 << EVENING | 1 << MOON);
            due("an evening a day further on", told(x, 8, y -> y.kinds(3, 0), 20, 20), 1 << EVENING);
            due("a moon a day further on", told(x, 8, y -> y.kinds(3, 0), 20, 21), 1 << MOON);
            due("any now", told(x, 8, y -> y.kinds(3, 0), -1, 21), 1 << MOON);
            due("the eighth is asked", told(x, 8, y -> y.kinds(3, 0), 3, 3, 3, 3, 3, 3, 3, 4), 0);
            due("the ninth isn't", told(x, 8, y -> y.kinds(3, 0), 3, 3, 3, 3, 3, 3, 3, 3, 4), 1 << TOPPER);
            due("it stays of its kind", x.of(0, 0), HAT);
        });
        holds("26", "BEYOND: no such sheet.", () -> {
            range("a sheet", 0, 3, s -> fourSheets().kinds(s, 0));
            due("and no deposit", new EveningCloak().kinds(4, 0), BEYOND);
        });
        holds("26", "MISSING.", () -> {
            EveningCloak x = room("coat");
            for (int s = 0; s < 4; s++) due("sheet " + s, x.kinds(s, 0), MISSING);
            due("and no deposit", x.kinds(0, 1), MISSING);
            x.sheet(0, 8, 0);
            due("an empty one isn't", x.kinds(0, 0), 127);
        });
        holds("26", "BEYOND: no such DEPOSIT.", () -> {
            range("a deposit of one", 0, 0, d -> fourSheets().kinds(0, d));
            EveningCloak x = eightCoats();
            x.sheet(0, 8, 0);
            range("a deposit of eight", 0, 7, d -> x.kinds(0, d));
        });
    }
}
