/** Promises 1 to 11. */
final class BoundsOfCloakroom extends Bounds {
    private static final int[] MOST_OF = {6, 15, 99, 9999, 99, 1};

    BoundsOfCloakroom() {
        holds("1", "All as at first; no DEPOSITS, no GIRLS; THE TAPE is empty, no image is kept.", this::newObject);
        listings();
        newOnes();
        deposits();
        girls();
        holds("10", "LIGHT at a HANGER. BEYOND.", () -> {
            range("light", 0, 15, h -> room("evening").light(h));
            EveningCloak x = room("topper", "topper on 15");
            due("at the first", x.light(0), 3);
            due("at the last", x.light(15), 3);
        });
        calls();
    }

    private void newObject() {
        EveningCloak x = new EveningCloak();
        for (int which = -1; which < 7; which++) due("status " + which, x.status(which), 0);
        for (int what = 0; what < 8; what++) due("count " + what, x.count(what), what == 6 ? 1 : 0);
        int[] now = {0, 0, 0, 0, 65535, 0, 0, 0};
        for (int what = 0; what < 8; what++) due("now " + what, x.now(what), now[what]);
        for (int i = 0; i < 6; i++) due("place " + i, x.listed(i), 0);
        for (int h = 0; h < 16; h++) due("light " + h, x.light(h), 0);
        due("a deposit", x.of(0, 0), BEYOND);
        due("a girl", x.ofGirl(0, 0), BEYOND);
        for (int spot = 0; spot < 10; spot++) due("spot " + spot, x.as(spot, COAT), MISSING);
        for (int s = 0; s < 4; s++) due("sheet " + s, x.judge(s), MISSING);
        due("the tape", x.wipe(), 0);
        due("a text", x.text(), -1);
        due("an image", x.undo(), NONE);
        due("an image to tear", x.tear(), 0);
    }

    private void listings() {
        holds("2", "THE LIST tells in place i (0 to 5)", () -> {
            range("a place", 0, 5, i -> new EveningCloak().stand(i, 1, 1));
            EveningCloak x = new EveningCloak();
            x.stand(0, 1, 2);
            x.stand(5, 3, 4);
            int[] list = {102, 0, 0, 0, 0, 304};
            for (int i = 0; i < 6; i++) due("place " + i, x.listed(i), list[i]);
        });
        holds("2", "a STAND of a GIRL (0 to 5) by a HANGER: which it was (100 * GIRL and HANGER). BEYOND.", () -> {
            range("a girl", 0, 5, g -> new EveningCloak().stand(0, g, 0));
            range("a hanger", 0, 15, h -> new EveningCloak().stand(0, 0, h));
            EveningCloak x = new EveningCloak();
            due("at first", x.stand(2, 5, 15), 0);
            due("the most of both", x.stand(2, 0, 15), 515);
            due("the first girl", x.stand(2, 5, 0), 15);
            due("the first hanger", x.stand(2, 0, 0), 500);
        });
        holds("3", "The STAND in a place of THE LIST. BEYOND.", () -> {
            range("a place", 0, 5, i -> new EveningCloak().listed(i));
            EveningCloak x = new EveningCloak();
            for (int i = 0; i < 6; i++) x.stand(i, i, 2 * i);
            for (int i = 0; i < 6; i++) due("place " + i, x.listed(i), 102 * i);
        });
    }

    private void newOnes() {
        holds("4", "A new DEPOSIT on a HANGER: its number. BEYOND.", () -> {
            range("a kind", 0, 6, kind -> new EveningCloak().deposit(kind, 0));
            range("a hanger", 0, 15, h -> new EveningCloak().deposit(COAT, h));
            EveningCloak x = new EveningCloak();
            due("the first", x.deposit(TOPPER, 15), 0);
            due("the second", x.deposit(COAT, 0), 1);
            due("kind", x.of(0, 0), TOPPER);
            due("hanger", x.of(0, 1), 15);
        });
        holds("4", "FULL.", () -> {
            EveningCloak x = room("coat;coat;coat;coat;coat;coat;coat");
            due("the eighth", x.deposit(HAT, 3), 7);
            due("a ninth", x.deposit(HAT, 3), FULL);
            x.change(0, 5, 1);
            due("what is out keeps its number", x.deposit(HAT, 3), FULL);
            due("how many", x.count(1), 8);
        });
        holds("5", "A new GIRL with HOPE: the number. BEYOND.", () -> {
            range("hope", 1, 99, hope -> new EveningCloak().girl(hope));
            EveningCloak x = new EveningCloak();
            due("the first", x.girl(1), 0);
            due("the second", x.girl(99), 1);
            due("the least hope", x.ofGirl(0, 1), 1);
            due("the most hope", x.ofGirl(1, 1), 99);
            due("dream", x.ofGirl(1, 0), 0);
            due("met", x.ofGirl(1, 2), 0);
        });
        holds("5", "FULL.", () -> {
            EveningCloak x = room("girl;girl;girl;girl;girl");
            due("the sixth", x.girl(3), 5);
            due("a seventh", x.girl(3), FULL);
            due("how many", x.count(2), 6);
        });
    }

    private void deposits() {
        holds("6", "what 0 KIND, 1 HANGER, 2 STUB, 3 KEPT, 4 WORN, 5 OUT, 6 SHINES, 7 REACHES, 8 WEARS, 9 COSTS. BEYOND.", () -> {
            range("what", 0, 9, what -> room("coat").of(0, what));
            range("a deposit of one", 0, 0, d -> room("coat").of(d, 0));
            range("a deposit of eight", 0, 7, d -> eightCoats().of(d, 0));
            due("a deposit of none", new EveningCloak().of(0, 0), BEYOND);
            EveningCloak x = room("moon on 2 stub 3 kept 45 worn 61 out");
            int[] told = {MOON, 2, 3, 45, 61, 1, 12 + 61, 5 + 3, 1, 0};
            for (int what = 0; what < 10; what++) due("what " + what, x.of(0, what), told[what]);
            due("costs", room("topper").of(0, 9), 3);
        });
        holds("7", "KIND (what 0), HANGER (1), STUB (2), KEPT (3), WORN (4), OUT (5) of a DEPOSIT becomes v: what it was. BEYOND.", () -> {
            range("what", 0, 5, what -> room("coat").change(0, what, 1));
            range("a deposit of one", 0, 0, d -> room("coat").change(d, 0, 1));
            range("a deposit of eight", 0, 7, d -> eightCoats().change(d, 0, 1));
            due("a deposit of none", new EveningCloak().change(0, 0, 0), BEYOND);
            for (int what = 0; what < 6; what++) {
                int w = what;
                range("what " + what + ", v", 0, MOST_OF[what], v -> room("coat").change(0, w, v));
            }
            changed();
        });
    }

    private void changed() {
        EveningCloak x = room("dusk on 4 stub 5 kept 6 worn 7 out", "hat on 9");
        int[] was = {DUSK, 4, 5, 6, 7, 1};
        int[] other = {HAT, 9, 10, 0, 0, 0};
        for (int what = 0; what < 6; what++) {
            due("what " + what + " was", x.change(0, what, MOST_OF[what]), was[what]);
            due("what " + what + " became", x.change(0, what, 0), MOST_OF[what]);
            due("what " + what + " is", x.of(0, what), 0);
            due("what " + what + " of the other", x.of(1, what), other[what]);
        }
    }

    private void girls() {
        holds("8", "what 0 DREAM, 1 HOPE, 2 MET. BEYOND.", () -> {
            range("what", 0, 2, what -> room("girl").ofGirl(0, what));
            range("a girl of one", 0, 0, g -> room("girl").ofGirl(g, 0));
            range("a girl of six", 0, 5, g -> sixGirls().ofGirl(g, 0));
            due("a girl of none", new EveningCloak().ofGirl(0, 0), BEYOND);
            EveningCloak x = room("girl hope 7");
            x.wake(0, 0, 5);
            x.wake(0, 2, 9);
            int[] told = {5, 7, 9};
            for (int what = 0; what < 3; what++) due("what " + what, x.ofGirl(0, what), told[what]);
        });
        holds("9", "DREAM (what 0), HOPE (1), MET (2) of a GIRL becomes v: what it was. BEYOND.", () -> {
            range("what", 0, 2, what -> room("girl").wake(0, what, 1));
            range("a girl of one", 0, 0, g -> room("girl").wake(g, 0, 1));
            range("a girl of six", 0, 5, g -> sixGirls().wake(g, 0, 1));
            due("a girl of none", new EveningCloak().wake(0, 0, 1), BEYOND);
            range("a dream", 0, 99, v -> room("girl").wake(0, 0, v));
            range("a hope", 1, 99, v -> room("girl").wake(0, 1, v));
            range("met", 0, 9999, v -> room("girl").wake(0, 2, v));
            EveningCloak x = room("girl hope 7", "girl hope 8");
            int[] was = {0, 7, 0};
            int[] most = {99, 99, 9999};
            int[] least = {0, 1, 0};
            int[] other = {0, 8, 0};
            for (int what = 0; what < 3; what++) {
                due("what " + what + " was", x.wake(0, what, most[what]), was[what]);
                due("what " + what + " became", x.wake(0, what, least[what]), most[what]);
                due("what " + what + " is", x.ofGirl(0, what), least[what]);
                due("what " + what + " of the other", x.ofGirl(1, what), other[what]);
            }
        });
    }

    private void calls() {
        holds("11", "of DEPOSITS with that STUB that aren't OUT the one of the least number is OUT: its number. BEYOND.", () -> {
            range("a stub", 0, 99, stub -> room("hat stub 0;hat stub 99").call(stub));
            EveningCloak x = room("hat stub 7 out", "hat stub 6", "hat stub 7", "hat stub 7");
            due("the first that isn't out", x.call(7), 2);
            due("it is out", x.of(2, 5), 1);
            due("the next isn't", x.of(3, 5), 0);
            due("the next one", x.call(7), 3);
            due("of another stub", x.of(1, 5), 0);
        });
        holds("11", "NONE.", () -> {
            due("of no deposits", new EveningCloak().call(0), NONE);
            EveningCloak x = room("hat stub 5");
            due("a stub below", x.call(4), NONE);
            due("a stub above", x.call(6), NONE);
            due("the stub", x.call(5), 0);
            due("it is out", x.call(5), NONE);
            x.change(0, 5, 0);
            due("it is back", x.call(5), 0);
        });
    }
}
