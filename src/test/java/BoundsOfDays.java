/** Promises 12 to 19. */
final class BoundsOfDays extends Bounds {
    /** Places of the list where nobody stands, there being at most five girls. */
    private static final String NOBODY = "stand 0 5 0;stand 1 5 0;stand 2 5 0;stand 3 5 0;stand 4 5 0;stand 5 5 0";

    BoundsOfDays() {
        goes();
        nows();
        holds("14", "What 3, 4, 6, 7 (as in of()) of a DEPOSIT", this::ahead);
        holds("14", "behind n (0 to 100) DAYS. BEYOND.", () -> {
            range("n", 0, 100, n -> room("coat").ahead(0, 3, n));
            due("now", room("coat kept 7").ahead(0, 3, 0), 7);
            due("a day", room("coat kept 7").ahead(0, 3, 1), 8);
            due("the most", room("coat kept 7").ahead(0, 3, 100), 107);
        });
        holds("15", "DREAM (what 0), MET (2) of a GIRL", this::later);
        holds("15", "behind n (0 to 100) DAYS. BEYOND.", () -> {
            range("n", 0, 100, n -> room("girl").later(0, 0, n));
            EveningCloak x = room("topper", "girl hope 3");
            due("now", x.later(0, 2, 0), 0);
            due("a day", x.later(0, 2, 1), 1);
            due("the most", x.later(0, 2, 100), 100);
        });
        holds("16", "LIGHT at a HANGER behind n (0 to 100) DAYS. BEYOND.", () -> {
            range("a hanger", 0, 15, h -> room("coat").dawn(h, 1));
            range("n", 0, 100, n -> room("coat").dawn(0, n));
            EveningCloak x = room("evening");
            due("now", x.dawn(0, 0), 20);
            due("nine days", x.dawn(0, 9), 20);
            due("ten days", x.dawn(0, 10), 21);
            due("99 days", x.dawn(0, 99), 29);
            due("the most", x.dawn(0, 100), 30);
            due("nothing changes", x.count(0) + x.of(0, 3), 0);
        });
        awaited();
    }

    private void goes() {
        holds("12", "n DAYS (1 to 60): FEES then. BEYOND.", () -> {
            range("n", 1, 60, n -> room("coat").go(n));
            EveningCloak x = room("coat");
            due("fees of the least", x.go(1), 2);
            due("fees of the most", x.go(60), 122);
            due("day", x.count(0), 61);
        });
        holds("12", "STATE: DAY would be above 99999.", () -> {
            EveningCloak x = onDay(99939, room("coat"));
            due("to the last day", x.go(60), 120);
            due("the last day", x.count(0), 99999);
            due("behind it", x.go(1), STATE);
            EveningCloak y = onDay(99940, room("coat"));
            due("one too many", y.go(60), STATE);
            due("none went by", y.count(0), 99940);
            due("fees stay", y.count(3), 0);
            due("one fewer", y.go(59), 118);
            due("no finding on a day that 512 calls come to", onDay(60 * 511, room("coat")).go(60), 120);
        });
    }

    private void nows() {
        holds("13", "What 0 DAY, 1 FEES, 2 MET of all together", () -> {
            range("what", 0, 7, what -> new EveningCloak().now(what));
            EveningCloak x = room("girl;girl;girl;girl;girl;girl");
            due("met of none", x.now(2), 0);
            for (int g = 0; g < 6; g++) x.wake(g, 2, 9999);
            due("the most met of all", x.now(2), 59994);
            x.deposit(COAT, 0);
            x.go(2);
            due("day", x.now(0), 2);
            due("fees", x.now(1), 4);
        });
        holds("13", "3 what is OUT, as a set, 4 HANGERS that aren't LIGHT at all (0), as a set", () -> {
            EveningCloak x = eightCoats();
            due("nothing is out", x.now(3), 0);
            for (int d = 0; d < 8; d++) x.change(d, 5, 1);
            due("all are out", x.now(3), 255);
            due("no light", x.now(4), 65535);
            due("a light of 1 three off", room("dusk").now(4), 65535 - 15);
            due("light everywhere", room("moon on 6 worn 99", "topper").now(4), 0);
        });
        holds("13", "5 the HANGER where it is lightest", () -> {
            due("light nowhere", new EveningCloak().now(5), 0);
            due("the first", room("topper;topper on 1").now(5), 0);
            due("the first, by far", room("topper;topper;topper on 5").now(5), 0);
            due("the second", room("topper on 1").now(5), 1);
            due("the last", room("topper on 15;evening on 15;topper on 0").now(5), 15);
            due("1 more", room("evening kept 9;evening on 8 kept 10").now(5), 8);
        });
        holds("13", "6 what all that aren't OUT COST together in a DAY, 7 DREAMS of all together. BEYOND.", () -> {
            range("what", 0, 7, what -> new EveningCloak().now(what));
            EveningCloak x = room("coat;hat;topper;umbrella;evening;dusk;moon;coat out", "girl;girl;girl;girl;girl;girl");
            due("costs", x.now(6), 7);
            for (int d = 0; d < 8; d++) x.change(d, 5, 1);
            due("costs of none", x.now(6), 0);
            due("dreams of none", x.now(7), 0);
            for (int g = 0; g < 6; g++) x.wake(g, 0, 99);
            due("the most dreams of all", x.now(7), 594);
        });
    }

    private void ahead() {
        for (int what = -1; what <= 10; what++) {
            int told = new int[] {BEYOND, BEYOND, BEYOND, BEYOND, 4, 23, BEYOND, 33, 6, BEYOND, BEYOND, BEYOND}[what + 1];
            due("what " + what, room("moon kept 2 worn 20").ahead(0, what, 2), told);
        }
        due("what of all", room("coat").ahead(0, LEAST, 0), BEYOND);
        range("a deposit of one", 0, 0, d -> room("coat").ahead(d, 3, 0));
        range("a deposit of eight", 0, 7, d -> eightCoats().ahead(d, 3, 0));
        due("a deposit of none", new EveningCloak().ahead(0, 3, 0), BEYOND);
        EveningCloak x = room("moon kept 9990 worn 90");
        due("kept at most", x.ahead(0, 3, 100), 9999);
        due("worn at most", x.ahead(0, 4, 100), 99);
        due("shines at most", x.ahead(0, 6, 100), 124);
        due("reaches at most", x.ahead(0, 7, 100), 9);
        due("nothing changes", x.of(0, 3) + x.of(0, 4) + x.count(0), 9990 + 90);
    }

    private void later() {
        EveningCloak x = room("topper", "girl hope 99", NOBODY, "stand 0 0 0");
        x.wake(0, 2, 5);
        int[] told = {BEYOND, 6, BEYOND, 5, BEYOND};
        for (int what = -1; what <= 3; what++) due("what " + what, x.later(0, what, 7), told[what + 1]);
        range("a girl of one", 0, 0, g -> room("girl").later(g, 0, 0));
        range("a girl of six", 0, 5, g -> sixGirls().later(g, 0, 0));
        due("a girl of none", new EveningCloak().later(0, 0, 0), BEYOND);
        due("before her second stand", x.later(0, 0, 6), 3);
        due("behind her second stand", x.later(0, 0, 7), 6);
        due("nothing changes", x.ofGirl(0, 0) + x.count(0), 0);
    }

    private void awaited() {
        holds("17", "Behind how many DAYS (0 to 200, the fewest) MET of a GIRL is", this::meets);
        holds("17", "v (0 to 9999) or more. BEYOND.", () -> {
            range("v", 0, 9999, v -> met(9999).meets(0, v));
            range("a girl of one", 0, 0, g -> room("girl").meets(g, 0));
            range("a girl of six", 0, 5, g -> sixGirls().meets(g, 0));
            due("a girl of none", new EveningCloak().meets(0, 0), BEYOND);
            due("more than asked for", met(7).meets(0, 6), 0);
            due("as often as asked for", met(7).meets(0, 7), 0);
            due("once more", met(7).meets(0, 8), 1);
        });
        holds("17", "NONE.", () -> {
            due("in the dark", room("girl").meets(0, 1), NONE);
            due("at the most once a day", met(0).meets(0, 200), 200);
            due("in a day too many", met(0).meets(0, 201), NONE);
        });
        holds("18", "Behind how many DAYS (0 to 200, the fewest) a DEPOSIT is WORN", () -> {
            EveningCloak x = room("dusk");
            due("already", x.threadbare(0, 0), 0);
            due("on the first odd day", x.threadbare(0, 1), 2);
            // Nothing that wears at all takes longer than this.
            due("the latest that there is", x.threadbare(0, 99), 198);
            due("from an odd day on", onDay(1, room("dusk")).threadbare(0, 99), 197);
            due("nothing changes", x.of(0, 4) + x.count(0), 0);
        });
        holds("18", "v (0 to 99) or more. BEYOND.", () -> {
            range("v", 0, 99, v -> room("coat worn 99").threadbare(0, v));
            range("a deposit of one", 0, 0, d -> room("coat").threadbare(d, 0));
            range("a deposit of eight", 0, 7, d -> eightCoats().threadbare(d, 0));
            due("a deposit of none", new EveningCloak().threadbare(0, 0), BEYOND);
            due("more than asked for", room("coat worn 9").threadbare(0, 8), 0);
            due("as much as asked for", room("coat worn 9").threadbare(0, 9), 0);
            due("one more", room("coat worn 9").threadbare(0, 10), 1);
            due("by two", room("umbrella;topper").threadbare(0, 3), 2);
        });
        holds("18", "NONE.", () -> {
            due("an evening", room("evening").threadbare(0, 1), NONE);
            due("a topper", room("topper worn 98").threadbare(0, 99), NONE);
            due("what is out", room("coat out").threadbare(0, 1), NONE);
        });
        holds("19", "Behind how many DAYS (0 to 200, the fewest) FEES are", () -> {
            EveningCloak x = room("coat");
            due("already", x.earns(0), 0);
            due("in a day, more than asked for", x.earns(1), 1);
            due("in a day", x.earns(2), 1);
            due("in two days", x.earns(3), 2);
            due("in 199 days", x.earns(398), 199);
            due("in 200 days", x.earns(399), 200);
            due("just in 200 days", x.earns(400), 200);
            due("nothing changes", x.count(3) + x.count(0), 0);
        });
        holds("19", "v (0 to 99999) or more. BEYOND.", () -> {
            int[] none = {-1, 100000, LEAST, MOST};
            for (int v : none) due("v " + v, new EveningCloak().earns(v), BEYOND);
            due("the least, already", new EveningCloak().earns(0), 0);
            due("the most, never", new EveningCloak().earns(99999), NONE);
            EveningCloak x = room("coat");
            x.go(3);
            due("as much as asked for", x.earns(6), 0);
            due("more than asked for", x.earns(5), 0);
            due("one more", x.earns(7), 1);
        });
        holds("19", "NONE.", () -> {
            due("in 201 days", room("coat").earns(401), NONE);
            due("of nothing", new EveningCloak().earns(1), NONE);
            due("of what is out", room("coat out").earns(1), NONE);
        });
    }

    /** A girl who meets him every day. */
    private static EveningCloak met(int often) {
        EveningCloak x = room("topper", "girl hope 3");
        x.wake(0, 2, often);
        return x;
    }

    private void meets() {
        // On days 1, 7, .., 199 (the last of 200): her 34th stand is behind 200 days.
        EveningCloak x = room("topper", "girl hope 3", NOBODY, "stand 1 0 0");
        due("already", x.meets(0, 0), 0);
        due("the first", x.meets(0, 1), 2);
        due("the second", x.meets(0, 2), 8);
        due("behind 194 days", x.meets(0, 33), 194);
        due("behind 200 days", x.meets(0, 34), 200);
        due("behind 206 days", x.meets(0, 35), NONE);
        // On days 2, 8, .., 200: that one is behind 201 days.
        EveningCloak y = room("topper", "girl hope 3", NOBODY, "stand 2 0 0");
        due("behind 195 days", y.meets(0, 33), 195);
        due("behind 201 days", y.meets(0, 34), NONE);
        due("nothing changes", y.count(4) + y.count(0), 0);
    }
}
