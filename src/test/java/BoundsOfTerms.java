/** The Terms on hangers, deposits, girls, days, draws, spots and sheets. */
final class BoundsOfTerms extends Bounds {
    BoundsOfTerms() {
        rows();
        deposits();
        shines();
        wears();
        light();
        girls();
        days();
        holds("T", "z is told (1 at first)", () -> due("z of a new object", new EveningCloak().count(6), 1));
        holds("T", "each makes it z * 1103515245 + 12345 (an int), and gives z >>> 8.", this::draws);
        holds("T", "SPOTS 0 to 9 hold a DEPOSIT or nothing (at first).", this::spots);
        holds("T", "SHEETS 0 to 3: rows of at most 40 numbers of 8, 16 or 32 bits, or MISSING (at first).", this::sheets);
    }

    private void rows() {
        holds("T", "HANGERS 0 to 15 in a row.", () -> {
            range("a hanger", 0, 15, h -> new EveningCloak().deposit(COAT, h));
            EveningCloak x = room("evening");
            due("next to the first", x.light(1), 17);
            due("the last isn't next to the first", x.light(15), 0);
            x.change(0, 1, 15);
            due("next to the last", x.light(14), 17);
            due("the first isn't next to the last", x.light(0), 0);
        });
        holds("T", "FEES (0 to 99999; 0 at first).", () -> {
            due("at first", new EveningCloak().count(3), 0);
            range("fees asked for", 0, 99999, v -> costly().earns(v));
        });
        holds("T", "THE LIST: six STANDS, one for DAY modulo 6", () -> {
            EveningCloak x = room("topper", "girl;girl;girl;girl;girl;girl", "stand 0 0 0;stand 1 1 0;stand 2 2 0;stand 3 3 0",
                "stand 4 4 0;stand 5 5 0");
            for (int day = 0; day < 14; day++) {
                x.go(1);
                for (int g = 0; g < 6; g++) {
                    due("dream of " + g + " behind day " + day, x.ofGirl(g, 0), 3 * ((day - g + 6) / 6));
                }
            }
        });
        holds("T", "of a GIRL (0 to 5) by a HANGER (0 to 15), told as one number, 100 * GIRL and HANGER together (0 at first).", () -> {
            EveningCloak x = new EveningCloak();
            for (int i = 0; i < 6; i++) due("place " + i + " at first", x.listed(i), 0);
            x.stand(0, 5, 15);
            x.stand(5, 0, 15);
            x.stand(3, 5, 0);
            due("the most of both", x.listed(0), 515);
            due("the first girl", x.listed(5), 15);
            due("the first hanger", x.listed(3), 500);
            range("a girl", 0, 5, g -> new EveningCloak().stand(0, g, 0));
            range("a hanger", 0, 15, h -> new EveningCloak().stand(0, 0, h));
        });
    }

    /** With fees of 99999 already. */
    private static EveningCloak costly() {
        EveningCloak x = room("topper;topper;topper;topper;topper;topper;topper;topper");
        for (int i = 0; i < 70; i++) x.go(60);
        return x;
    }

    private void deposits() {
        holds("T", "DEPOSITS 0, 1, .. (at most 8)", () -> {
            EveningCloak x = new EveningCloak();
            for (int d = 0; d < 8; d++) due("number", x.deposit(COAT, 0), d);
            due("a ninth", x.deposit(COAT, 0), FULL);
            due("how many", x.count(1), 8);
            due("the eighth is there", x.of(7, 2), 70);
            due("a ninth isn't", x.of(8, 2), BEYOND);
        });
        holds("T", "of KINDS: 0 COAT; 1 EVENING, 2 HAT, 5 UMBRELLA under COAT; 3 DUSK under EVENING; 4 MOON under DUSK; 6 TOPPER under HAT",
            this::kindsUnder);
        holds("T", "with a STUB (0 to 99; 10 times its number at first)", () -> {
            EveningCloak x = eightCoats();
            for (int d = 0; d < 8; d++) due("stub of " + d, x.of(d, 2), 10 * d);
            range("a stub", 0, 99, v -> room("coat").change(0, 2, v));
        });
        holds("T", "KEPT (DAYS; 0 to 9999; 0 at first)", () -> {
            due("at first", room("coat").of(0, 3), 0);
            range("kept", 0, 9999, v -> room("coat").change(0, 3, v));
        });
        holds("T", "WORN (0 to 99; 0 at first)", () -> {
            due("at first", room("coat").of(0, 4), 0);
            range("worn", 0, 99, v -> room("coat").change(0, 4, v));
        });
        holds("T", "OUT or not (given out; 1, 0; 0 at first)", () -> {
            due("at first", room("coat").of(0, 5), 0);
            range("out", 0, 1, v -> room("coat").change(0, 5, v));
        });
    }

    private void kindsUnder() {
        range("a kind", 0, 6, k -> new EveningCloak().deposit(k, 0));
        EveningCloak x = room("coat", "evening", "hat", "dusk", "moon", "umbrella", "topper");
        int[][] under = {{COAT}, {EVENING, COAT}, {HAT, COAT}, {DUSK, EVENING, COAT}, {MOON, DUSK, EVENING, COAT},
            {UMBRELLA, COAT}, {TOPPER, HAT, COAT}};
        for (int kind = 0; kind < 7; kind++) {
            x.hold(0, kind);
            for (int upper = 0; upper < 7; upper++) {
                boolean is = false;
                for (int u : under[kind]) is |= u == upper;
                due(WORDS[kind] + " as " + WORDS[upper], x.as(0, upper), is ? kind : KIND);
            }
        }
    }

    private void shines() {
        holds("T", "SHINES (where it hangs, if it isn't OUT): COAT: 0.", () -> {
            EveningCloak x = room("coat kept 9999 worn 99", "topper on 1");
            due("a coat", x.of(0, 6), 0);
            due("light of a coat", x.light(0), 0);
            x.change(1, 5, 1);
            due("what is out", x.of(1, 6), 3);
            due("light of what is out", x.light(1), 0);
        });
        holds("T", "EVENING: 20, and a tenth (cut) of KEPT (50 in all at most).", () -> {
            EveningCloak x = room("evening worn 99");
            int[] kept = {0, 9, 10, 19, 289, 290, 299, 300, 309, 310, 9999};
            int[] shines = {20, 20, 21, 21, 48, 49, 49, 50, 50, 50, 50};
            table(x, 3, kept, 6, shines);
        });
        holds("T", "DUSK: half (cut) of an EVENING.", () -> {
            int[] kept = {0, 10, 19, 20, 290, 299, 300, 310, 320, 9999};
            int[] shines = {10, 10, 10, 11, 24, 24, 25, 25, 25, 25};
            table(room("dusk worn 99"), 3, kept, 6, shines);
        });
        holds("T", "MOON: as a DUSK, and WORN.", () -> {
            table(room("moon kept 10"), 4, new int[] {0, 1, 98, 99}, 6, new int[] {10, 11, 108, 109});
            table(room("moon worn 99"), 3, new int[] {19, 20, 299, 300, 320, 9999}, 6, new int[] {109, 110, 123, 124, 124, 124});
        });
        holds("T", "HAT: 0. TOPPER: 3. UMBRELLA: 0.", () -> {
            due("a hat", room("hat kept 9999 worn 99").of(0, 6), 0);
            due("a topper", room("topper kept 9999 worn 99").of(0, 6), 3);
            due("an umbrella", room("umbrella kept 9999 worn 99").of(0, 6), 0);
        });
        holds("T", "REACHES (HANGERS to both sides): COAT: 0. EVENING: 3. DUSK: as an EVENING, and 2.", () -> {
            due("a coat", room("coat kept 9999 worn 99").of(0, 7), 0);
            due("an evening", room("evening kept 9999 worn 99").of(0, 7), 3);
            due("a dusk", room("dusk kept 9999 worn 99").of(0, 7), 5);
            EveningCloak x = room("evening on 8");
            due("three down", x.light(5), 11);
            due("three up", x.light(11), 11);
            due("four down", x.light(4), 0);
            due("four up", x.light(12), 0);
        });
        holds("T", "MOON: as a DUSK, and 1 for each 20 that it is WORN.", () -> {
            int[] worn = {0, 19, 20, 39, 40, 59, 60, 79, 80, 99};
            int[] reaches = {5, 5, 6, 6, 7, 7, 8, 8, 9, 9};
            table(room("moon kept 9999"), 4, worn, 7, reaches);
        });
        holds("T", "HAT, TOPPER, UMBRELLA: as a COAT.", () -> {
            due("a hat", room("hat kept 9999 worn 99").of(0, 7), 0);
            due("a topper", room("topper kept 9999 worn 99").of(0, 7), 0);
            due("an umbrella", room("umbrella kept 9999 worn 99").of(0, 7), 0);
        });
    }

    /** When one thing of deposit 0 has become so and so, another one must be so and so. */
    private void table(EveningCloak x, int changed, int[] becomes, int told, int[] want) {
        for (int i = 0; i < becomes.length; i++) {
            x.change(0, changed, becomes[i]);
            due("with " + changed + " of " + becomes[i] + " of(0, " + told + ")", x.of(0, told), want[i]);
        }
    }

    private void wears() {
        holds("T", "WEARS (WORN more in a DAY): COAT: 1. EVENING: 0. DUSK: as an EVENING, and 1, if DAY is odd.", () -> {
            EveningCloak x = room("coat", "evening", "dusk");
            for (int day = 0; day < 4; day++) {
                due("a coat on day " + day, x.of(0, 8), 1);
                due("an evening on day " + day, x.of(1, 8), 0);
                due("a dusk on day " + day, x.of(2, 8), day % 2);
                x.go(1);
            }
            due("worn coat", x.of(0, 4), 4);
            due("worn evening", x.of(1, 4), 0);
            due("worn dusk", x.of(2, 4), 2);
        });
        holds("T", "MOON: as a DUSK, and 1. HAT: as a COAT, less 1. TOPPER: as a HAT.", () -> {
            EveningCloak x = room("moon", "hat", "topper");
            for (int day = 0; day < 4; day++) {
                due("a moon on day " + day, x.of(0, 8), 1 + day % 2);
                due("a hat on day " + day, x.of(1, 8), 0);
                due("a topper on day " + day, x.of(2, 8), 0);
                x.go(1);
            }
            due("worn moon", x.of(0, 4), 6);
        });
        holds("T", "UMBRELLA: as a COAT, and 1 if it is LIGHT (above 0) where it hangs.", () -> {
            EveningCloak x = room("umbrella on 4", "dusk");
            due("in no light", x.light(4), 0);
            due("wears in no light", x.of(0, 8), 1);
            x.change(0, 1, 3);
            due("in a light of 1", x.light(3), 1);
            due("wears in a light of 1", x.of(0, 8), 2);
            x.change(1, 5, 1);
            due("wears when the light is out", x.of(0, 8), 1);
        });
        holds("T", "COSTS (FEES more in a DAY): COAT: 2. EVENING, DUSK, MOON: 0. HAT: half (cut) of a COAT. "
            + "TOPPER: thrice a HAT. UMBRELLA: as a COAT, less 1.", () -> {
            int[] costs = {2, 0, 1, 0, 0, 1, 3};
            for (int kind = 0; kind < 7; kind++) {
                EveningCloak x = room(WORDS[kind]);
                due(WORDS[kind] + " costs", x.of(0, 9), costs[kind]);
                due(WORDS[kind] + ", a day", x.go(1), costs[kind]);
            }
        });
    }

    private void light() {
        holds("T", "LIGHT (at a HANGER): what all DEPOSITS that aren't OUT give there together", () -> {
            due("of none", new EveningCloak().light(0), 0);
            EveningCloak x = room("topper;topper;topper;topper;topper;topper;topper;topper");
            due("of eight", x.light(0), 24);
            x.change(0, 5, 1);
            due("without the first", x.light(0), 21);
            x.change(7, 5, 1);
            due("without the last", x.light(0), 18);
        });
        holds("T", "each, as far as it REACHES", () -> {
            EveningCloak x = room("evening kept 300");
            due("an evening, three off", x.light(3), 41);
            due("an evening, four off", x.light(4), 0);
            EveningCloak y = room("dusk on 15 kept 300");
            due("a dusk, five off", y.light(10), 10);
            due("a dusk, six off", y.light(9), 0);
            EveningCloak z = room("moon worn 99");
            due("a moon, nine off", z.light(9), 82);
            due("a moon, ten off", z.light(10), 0);
            due("a topper, where it hangs", room("topper").light(0), 3);
            due("a topper, one off", room("topper").light(1), 0);
        });
        holds("T", "what it SHINES less 3 for each HANGER that it is off (0 at least of each).", () -> {
            EveningCloak x = room("dusk", "topper on 3", "topper on 4", "topper on 5");
            due("where it hangs", x.light(0), 10);
            due("one off", x.light(1), 7);
            due("three off, 1 more", x.light(3), 1 + 3);
            due("four off, not 2 less", x.light(4), 3);
            due("five off, not 5 less", x.light(5), 3);
            due("just none of its own", room("dusk kept 40").light(4), 0);
            due("just some of its own", room("dusk kept 60").light(4), 1);
        });
    }

    private void girls() {
        holds("T", "GIRLS 0, 1, .. (at most 6)", () -> {
            EveningCloak x = new EveningCloak();
            for (int g = 0; g < 6; g++) due("number", x.girl(9), g);
            due("a seventh", x.girl(9), FULL);
            due("how many", x.count(2), 6);
            due("the sixth is there", x.ofGirl(5, 1), 9);
            due("a seventh isn't", x.ofGirl(6, 1), BEYOND);
        });
        holds("T", "DREAM (0 to 99; 0 at first)", () -> {
            due("at first", room("girl").ofGirl(0, 0), 0);
            range("a dream", 0, 99, v -> room("girl").wake(0, 0, v));
        });
        holds("T", "HOPE (1 to 99; 50 at first)", () -> {
            due("at first", room("girl").ofGirl(0, 1), 50);
            range("a hope", 1, 99, v -> room("girl").wake(0, 1, v));
        });
        holds("T", "MET (how often; 0 to 9999; 0 at first)", () -> {
            due("at first", room("girl").ofGirl(0, 2), 0);
            range("met", 0, 9999, v -> room("girl").wake(0, 2, v));
        });
    }

    private void days() {
        holds("T", "A DAY goes by: (1) the STAND of THE LIST for DAY modulo 6, if there is that GIRL", this::stands);
        holds("T", "DREAM is LIGHT at that HANGER more (99 at most)", this::dreams);
        holds("T", "if it is HOPE or more then, MET is 1 more (9999 at most), DREAM is 0.", this::meetings);
        holds("T", "(2) FEES are what all that aren't OUT COST together more (99999 at most).", this::fees);
        holds("T", "(3) DEPOSITS by numbers that aren't OUT: WORN is what it WEARS more (99 at most; by all as they are then)", this::worn);
        holds("T", "KEPT 1 more (9999 at most).", () -> {
            EveningCloak x = room("coat kept 9998", "hat kept 9997", "hat kept 5 out");
            x.go(1);
            due("to the most", x.of(0, 3), 9999);
            due("below the most", x.of(1, 3), 9998);
            x.go(1);
            due("not above the most", x.of(0, 3), 9999);
            due("what is out", x.of(2, 3), 5);
        });
        holds("T", "DAY is one more (99999 at most).", () -> {
            EveningCloak x = room("dusk");
            x.go(1);
            due("one more", x.count(0), 1);
            EveningCloak y = onDay(99998, room("dusk", "topper", "girl hope 99", "stand 2 5 0;stand 3 0 0"));
            // Days 99998, 99999 and, there being none further on, 99999 for each that comes.
            due("worn on an even day", y.ahead(0, 4, 1), 0);
            due("worn on the last day", y.ahead(0, 4, 2), 1);
            due("worn on the last day again", y.ahead(0, 4, 3), 2);
            due("the last day's stand", y.later(0, 0, 1), 0);
            due("the last day's stand", y.later(0, 0, 3), 2 * 13);
            y.go(1);
            due("the last day", y.count(0), 99999);
        });
    }

    private void stands() {
        EveningCloak none = room("topper");
        none.go(7);
        due("no girls", none.count(4), 0);
        EveningCloak x = room("topper", "girl hope 3", "girl hope 3", "stand 0 1 0;stand 1 2 0;stand 2 5 0", "stand 3 0 0");
        x.go(1);
        due("the last girl that there is", x.ofGirl(1, 2), 1);
        x.go(2);
        due("girls that aren't there", x.count(4), 1);
        x.go(1);
        due("the first girl", x.ofGirl(0, 2), 1);
        // She stands before the moon is worn: by its light of the day before.
        EveningCloak y = room("moon", "girl hope 99", "stand 0 0 0");
        y.go(1);
        due("first the stand", y.ofGirl(0, 0), 10);
    }

    private void dreams() {
        EveningCloak x = room("moon worn 88", "girl hope 99", "stand 0 0 0");
        due("light", x.light(0), 98);
        due("98 more", x.later(0, 0, 1), 98);
        due("not met by 98", x.later(0, 2, 1), 0);
        x.wake(0, 0, 1);
        due("met by 99", x.later(0, 2, 1), 1);
        x.change(0, 4, 99);
        x.change(0, 3, 9999);
        due("light", x.light(0), 124);
        due("met by 125", x.later(0, 2, 1), 1);
        due("nothing left of 125", x.later(0, 0, 1), 0);
        due("no hope above 99 for 124", x.hopeFor(0, 1), 99);
        x.change(0, 1, 15);
        due("no light where she stands", x.later(0, 0, 1), 1);
        x.stand(0, 0, 15);
        x.wake(0, 0, 0);
        due("by that hanger", x.later(0, 2, 1), 1);
    }

    private void meetings() {
        EveningCloak x = room("evening", "girl", "stand 0 0 0");
        x.wake(0, 1, 21);
        due("one less than hope", x.later(0, 2, 1), 0);
        due("a dream one less than hope", x.later(0, 0, 1), 20);
        x.wake(0, 1, 20);
        due("as great as hope", x.later(0, 2, 1), 1);
        due("its dream is over", x.later(0, 0, 1), 0);
        x.wake(0, 1, 19);
        due("one more than hope", x.later(0, 2, 1), 1);
        due("nothing is left", x.later(0, 0, 1), 0);
        x.wake(0, 1, 1);
        due("once, however light", x.later(0, 2, 1), 1);
        x.wake(0, 2, 9998);
        due("to the most", x.later(0, 2, 1), 9999);
        x.wake(0, 2, 9999);
        due("not above the most", x.later(0, 2, 1), 9999);
        due("and the dream is over", x.later(0, 0, 1), 0);
        x.change(0, 5, 1);
        x.wake(0, 1, 50);
        x.wake(0, 2, 0);
        x.wake(0, 0, 49);
        due("a dream below hope, in the dark", x.later(0, 2, 1), 0);
        x.wake(0, 0, 50);
        due("a dream as great as hope, in the dark", x.later(0, 2, 1), 1);
        x.stand(0, 1, 0);
        due("and no stand", x.later(0, 2, 1), 0);
    }

    private void fees() {
        EveningCloak x = room("topper;topper;topper;topper;topper;topper;topper;topper");
        x.change(7, 5, 1);
        due("without what is out", x.go(1), 21);
        due("as one by one", x.go(1), 42);
        EveningCloak y = room("topper;topper;topper;topper;topper;topper;topper;topper");
        for (int i = 0; i < 69; i++) y.go(60);
        due("before the most", y.go(26), 99984);
        y.image();
        due("not above the most", y.go(1), 99999);
        due("nor behind that", y.go(60), 99999);
        y.undo();
        for (int d = 4; d < 8; d++) y.change(d, 0, d == 4 ? COAT : MOON);
        due("one below the most", y.go(1), 99998);
        for (int d = 0; d < 8; d++) y.change(d, 0, d == 0 ? HAT : MOON);
        due("the most", y.go(1), 99999);
        due("and no more", y.go(1), 99999);
    }

    private void worn() {
        EveningCloak x = room("coat worn 97", "umbrella worn 96", "umbrella worn 97", "topper", "coat worn 5 out");
        x.go(1);
        due("below the most", x.of(0, 4), 98);
        due("by 2, below the most", x.of(1, 4), 98);
        due("by 2, to the most", x.of(2, 4), 99);
        x.go(1);
        due("to the most", x.of(0, 4), 99);
        due("by 2, not above the most", x.of(1, 4), 99);
        x.go(1);
        due("not above the most", x.of(0, 4), 99);
        due("what is out", x.of(4, 4), 5);
        // A moon worn 20 reaches 6, a dusk kept 60 gives 1 at four off: one of a higher number sees it on that day.
        due("behind the moon", room("moon on 0 kept 300 worn 19", "umbrella on 6").ahead(1, 4, 1), 2);
        due("before the moon", room("umbrella on 6", "moon on 0 kept 300 worn 19").ahead(0, 4, 1), 1);
        due("behind the dusk", room("dusk kept 59", "umbrella on 4").ahead(1, 4, 1), 2);
        due("before the dusk", room("umbrella on 4", "dusk kept 59").ahead(0, 4, 1), 1);
    }

    private void draws() {
        // Seed, the stand that two draws tell, and z behind them; of each some z are below 0.
        int[][] drawn = {{1, 200, -1770082073}, {0, 6, -740551042}, {-1, 112, 288979989}, {MOST, 512, -1858503659},
            {LEAST, 206, 1406932606}, {7, 115, 642666333}, {2, 511, 1495354192}};
        for (int[] row : drawn) {
            EveningCloak x = new EveningCloak();
            x.seed(row[0]);
            x.night(1);
            due("the stand from " + row[0], x.listed(0), row[1]);
            due("z from " + row[0], x.count(6), row[2]);
        }
    }

    private void spots() {
        EveningCloak x = room("coat");
        for (int spot = 0; spot < 10; spot++) due("spot " + spot + " at first", x.as(spot, COAT), MISSING);
        due("none holds something", x.count(7), 0);
        for (int spot = 0; spot < 10; spot++) x.hold(spot, 0);
        due("all hold something", x.count(7), 10);
        range("a spot", 0, 9, spot -> room("coat").hold(spot, 0));
    }

    private void sheets() {
        EveningCloak x = new EveningCloak();
        for (int s = 0; s < 4; s++) due("sheet " + s + " at first", x.load(s), MISSING);
        range("a sheet", 0, 3, s -> new EveningCloak().sheet(s, 8, 1));
        int[] bits = {8, 16, 32};
        for (int b : bits) {
            due(b + " bits, the most", x.sheet(0, b, 40), 40);
            due(b + " bits, one more", x.sheet(0, b, 41), BEYOND);
            due(b - 1 + " bits", x.sheet(0, b - 1, 1), BEYOND);
            due(b + 1 + " bits", x.sheet(0, b + 1, 1), BEYOND);
        }
    }
}
