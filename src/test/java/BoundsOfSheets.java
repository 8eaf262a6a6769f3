/** Promises 33 to 39. */
final class BoundsOfSheets extends Bounds {
    private static final int[] BITS = {8, 16, 32};

    BoundsOfSheets() {
        spots();
        sheets();
        writes();
        copies();
        loads();
        judges();
    }

    private void spots() {
        holds("33", "A SPOT holds a DEPOSIT, or nothing (-1): 1. BEYOND.", () -> {
            range("a spot", 0, 9, spot -> room("coat").hold(spot, 0));
            range("a deposit of one", -1, 0, d -> room("coat").hold(0, d));
            range("a deposit of eight", -1, 7, d -> eightCoats().hold(0, d));
            range("a deposit of none", -1, -1, d -> new EveningCloak().hold(0, d));
            EveningCloak x = room("coat", "hat");
            due("holds", x.hold(9, 1), 1);
            due("it is held", x.as(9, COAT), 1);
            due("nothing", x.hold(9, -1), 1);
            due("nothing is held", x.count(7), 0);
        });
        holds("34", "What a SPOT holds as one of a kind (0 to 6): the number of the DEPOSIT. BEYOND.", () -> {
            range("a spot", 0, 9, spot -> held(spot, "topper").as(spot, COAT));
            due("the first kind", held(0, "topper").as(0, COAT), 0);
            due("the last kind", held(0, "topper").as(0, TOPPER), 0);
            int[] none = {-1, 7, LEAST, MOST};
            for (int kind : none) due("kind " + kind, held(0, "topper").as(0, kind), BEYOND);
            EveningCloak x = eightCoats();
            x.hold(0, 7);
            due("the last", x.as(0, COAT), 7);
        });
        holds("34", "MISSING: it holds nothing.", () -> {
            EveningCloak x = room("coat");
            due("at first", x.as(0, COAT), MISSING);
            x.hold(0, 0);
            due("something", x.as(0, COAT), 0);
            due("another spot", x.as(1, COAT), MISSING);
            x.hold(0, -1);
            due("nothing again", x.as(0, COAT), MISSING);
        });
        holds("34", "KIND: it isn't of that kind, nor of one under it.", () -> {
            EveningCloak x = held(0, "dusk");
            due("of that kind", x.as(0, DUSK), 0);
            due("of one under it", x.as(0, EVENING), 0);
            due("of one under one under it", x.as(0, COAT), 0);
            due("of one above it", x.as(0, MOON), KIND);
            due("of one beside it", x.as(0, HAT), KIND);
            x.change(0, 0, MOON);
            due("since it became a moon", x.as(0, MOON), 0);
            x.change(0, 0, COAT);
            due("since it became a coat", x.as(0, EVENING), KIND);
        });
    }

    private static EveningCloak held(int spot, String text) {
        EveningCloak x = room(text);
        x.hold(spot, 0);
        return x;
    }

    private void sheets() {
        holds("35", "A sheet has n numbers, all 0, of 8, 16 or 32 bits; bits 0: it is MISSING: n (0 if it is MISSING).", () -> {
            for (int b : BITS) {
                EveningCloak x = eightCoats();
                due("none", x.sheet(1, b, 0), 0);
                due("none is a sheet", x.judge(1), 0);
                due("one", x.sheet(1, b, 1), 1);
                due("the most", x.sheet(1, b, 40), 40);
                x.write(1, 3, 9);
                due("eight", x.sheet(1, b, 8), 8);
                due("all 0 again", x.judge(1), 0);
                due("missing", x.sheet(1, 0, 7), 0);
                due("missing", x.judge(1), MISSING);
                due("missing again", x.sheet(1, 0, 0), 0);
                due("missing, of the most", x.sheet(1, 0, 40), 0);
                due("there again", x.sheet(1, b, 8), 8);
                due("all 0", x.judge(1), 0);
            }
        });
        holds("35", "BEYOND: no such sheet, other bits.", () -> {
            range("a sheet", 0, 3, s -> new EveningCloak().sheet(s, 8, 1));
            range("no bits, a sheet", 0, 3, s -> new EveningCloak().sheet(s, 0, 1));
            int[] other = {LEAST, -32, -8, -1, 1, 4, 7, 9, 15, 17, 24, 31, 33, 64, MOST};
            for (int bits : other) due("bits " + bits, new EveningCloak().sheet(0, bits, 1), BEYOND);
        });
        holds("35", "SIZE: n is below 0 (also with bits 0).", () -> {
            int[] bits = {0, 8, 16, 32};
            for (int b : bits) {
                due(b + " bits, 0", new EveningCloak().sheet(0, b, 0), 0);
                due(b + " bits, -1", new EveningCloak().sheet(0, b, -1), SIZE);
                due(b + " bits, least", new EveningCloak().sheet(0, b, LEAST), SIZE);
            }
        });
        holds("35", "BEYOND: n is above 40.", () -> {
            int[] bits = {0, 8, 16, 32};
            for (int b : bits) {
                due(b + " bits, 40", new EveningCloak().sheet(0, b, 40), b == 0 ? 0 : 40);
                due(b + " bits, 41", new EveningCloak().sheet(0, b, 41), BEYOND);
                due(b + " bits, most", new EveningCloak().sheet(0, b, MOST), BEYOND);
            }
        });
    }

    /** A coat, worn so, and a sheet of one number, told so: 0 if they are the same. */
    private static int kept(int bits, int told, int worn) {
        EveningCloak x = room("coat worn " + worn);
        x.sheet(0, bits, 1);
        x.write(0, 0, told);
        return x.judge(0);
    }

    private void writes() {
        holds("36", "Number i of a sheet becomes v (its lowest bits): 1.", () -> {
            for (int b : BITS) {
                due(b + " bits", kept(b, 99, 99), 0);
                due(b + " bits, all others 0", kept(b, 0, 0), 0);
            }
            due("8 bits, the ninth", kept(8, 256 + 5, 5), 0);
            due("8 bits, all higher ones", kept(8, -256 + 5, 5), 0);
            due("8 bits, the eighth", kept(8, 128 + 5, 5), 1);
            due("16 bits, the ninth", kept(16, 256 + 5, 5), 1);
            due("16 bits, the 16th", kept(16, 32768 + 5, 5), 1);
            due("16 bits, the 17th", kept(16, 65536 + 5, 5), 0);
            due("32 bits, the 17th", kept(32, 65536 + 5, 5), 1);
            due("32 bits, the last", kept(32, LEAST + 5, 5), 1);
            EveningCloak x = eightCoats();
            x.sheet(0, 8, 8);
            due("the first", x.write(0, 0, 7), 1);
            due("the last", x.write(0, 7, 9), 1);
            x.load(0);
            int[] stubs = {7, 0, 0, 0, 0, 0, 0, 9};
            for (int d = 0; d < 8; d++) due("number " + d, x.of(d, 2), stubs[d]);
        });
        holds("36", "BEYOND: no such sheet.", () -> range("a sheet", 0, 3, s -> fourSheets(1).write(s, 0, 5)));
        holds("36", "MISSING.", () -> {
            EveningCloak x = new EveningCloak();
            for (int s = 0; s < 4; s++) due("sheet " + s, x.write(s, 0, 5), MISSING);
            x.sheet(0, 8, 1);
            due("there", x.write(0, 0, 5), 1);
            x.sheet(0, 0, 1);
            due("missing again", x.write(0, 0, 5), MISSING);
        });
        holds("36", "BEYOND: no such number.", () -> {
            range("a number of one", 0, 0, i -> fourSheets(1).write(2, i, 5));
            range("a number of 40", 0, 39, i -> fourSheets(40).write(2, i, 5));
            due("a number of none", fourSheets(0).write(2, 0, 5), BEYOND);
        });
    }

    private static EveningCloak fourSheets(int n) {
        EveningCloak x = room("coat");
        for (int s = 0; s < 4; s++) x.sheet(s, 8, n);
        return x;
    }

    /** Sheets 0 and 1 of five numbers (1 to 5, 11 to 15), and five coats to read them by. */
    private static EveningCloak twoSheets() {
        EveningCloak x = room("coat;coat;coat;coat;coat");
        for (int s = 0; s < 2; s++) {
            x.sheet(s, 8, 5);
            for (int i = 0; i < 5; i++) x.write(s, i, 10 * s + i + 1);
        }
        return x;
    }

    private void copied(int s, int from, int t, int to, int n, int... want) {
        String call = "copy(" + s + ", " + from + ", " + t + ", " + to + ", " + n + ")";
        EveningCloak x = twoSheets();
        due(call, x.copy(s, from, t, to, n), n);
        x.load(t);
        for (int i = 0; i < 5; i++) due(call + ", number " + i, x.of(i, 2), want[i]);
    }

    private void copies() {
        holds("37", "n numbers of a sheet from one on come to another one from one on (as they all were): n.", () -> {
            copied(0, 0, 1, 0, 5, 1, 2, 3, 4, 5);
            copied(0, 0, 1, 0, 0, 11, 12, 13, 14, 15);
            copied(0, 4, 1, 0, 1, 5, 12, 13, 14, 15);
            copied(1, 0, 0, 4, 1, 1, 2, 3, 4, 11);
            copied(0, 0, 0, 1, 4, 1, 1, 2, 3, 4);
            copied(0, 1, 0, 0, 4, 2, 3, 4, 5, 5);
            copied(0, 0, 0, 0, 5, 1, 2, 3, 4, 5);
        });
        holds("37", "BEYOND: no such sheet (either).", () -> {
            range("the one", 0, 3, s -> fourSheets(1).copy(s, 0, 0, 0, 1));
            range("the other", 0, 3, t -> fourSheets(1).copy(0, 0, t, 0, 1));
        });
        holds("37", "MISSING: one is.", () -> {
            EveningCloak x = twoSheets();
            due("the one", x.copy(2, 0, 0, 0, 1), MISSING);
            due("the other", x.copy(0, 0, 2, 0, 1), MISSING);
            due("both", x.copy(2, 0, 3, 0, 1), MISSING);
            due("the same", x.copy(2, 0, 2, 0, 0), MISSING);
            x.sheet(2, 8, 1);
            due("none any more", x.copy(0, 0, 2, 0, 1), 1);
        });
        holds("37", "KIND: they are not of as many bits.", () -> {
            for (int one : BITS) {
                for (int other : BITS) {
                    EveningCloak x = new EveningCloak();
                    x.sheet(0, one, 3);
                    x.sheet(1, other, 3);
                    due(one + " and " + other + " bits", x.copy(0, 0, 1, 0, 2), one == other ? 2 : KIND);
                    due(one + " and " + other + " bits, none", x.copy(0, 0, 1, 0, 0), one == other ? 0 : KIND);
                }
            }
        });
        holds("37", "BEYOND: one has not so many, or from, to or n is below 0.", () -> {
            range("n", 0, 5, n -> twoSheets().copy(0, 0, 1, 0, n));
            range("from", 0, 3, from -> twoSheets().copy(0, from, 1, 0, 2));
            range("to", 0, 3, to -> twoSheets().copy(0, 0, 1, to, 2));
            range("from, none", 0, 5, from -> twoSheets().copy(0, from, 1, 0, 0));
            range("to, none", 0, 5, to -> twoSheets().copy(0, 0, 1, to, 0));
            EveningCloak x = twoSheets();
            x.sheet(2, 8, 2);
            due("the one has too few", x.copy(2, 0, 0, 0, 3), BEYOND);
            due("the other has too few", x.copy(0, 0, 2, 0, 3), BEYOND);
            due("just so many", x.copy(0, 3, 2, 0, 2), 2);
            due("far too many", x.copy(0, MOST, 1, MOST, MOST), BEYOND);
            due("sums that wrap around", x.copy(0, 2, 1, 2, MOST - 1), BEYOND);
            due("sums that wrap around", x.copy(0, 5, 1, 5, MOST), BEYOND);
        });
    }

    private void loads() {
        holds("38", "Numbers of a sheet, from its begin on, become STUBS of DEPOSITS 0, 1, ..: how many came.", () -> {
            EveningCloak x = eightCoats();
            x.sheet(0, 16, 0);
            due("none", x.load(0), 0);
            x.sheet(0, 16, 1);
            x.write(0, 0, 99);
            due("one", x.load(0), 1);
            due("the first", x.of(0, 2), 99);
            due("the second stays", x.of(1, 2), 10);
            x.sheet(0, 16, 8);
            x.write(0, 7, 5);
            due("eight", x.load(0), 8);
            due("the last", x.of(7, 2), 5);
            due("the first", x.of(0, 2), 0);
        });
        holds("38", "It ends at the first that isn't 0 to 99, or for which there is no DEPOSIT.", () -> {
            int[] bad = {-1, 100, LEAST, MOST};
            for (int v : bad) {
                EveningCloak x = room("coat;coat;coat");
                x.sheet(0, 32, 3);
                x.write(0, 1, v);
                due("before " + v, x.load(0), 1);
                due("what came before " + v, x.of(0, 2), 0);
                due("not " + v, x.of(1, 2), 10);
                due("nor what is behind " + v, x.of(2, 2), 20);
                x.write(0, 0, v);
                due(v + " at once", x.load(0), 0);
            }
            EveningCloak y = room("coat;coat;coat");
            y.sheet(0, 32, 40);
            y.write(0, 0, 99);
            y.write(0, 2, 99);
            due("no fourth deposit", y.load(0), 3);
            due("the most", y.of(2, 2), 99);
            due("no deposit at all", fourEmpty().load(0), 0);
        });
        holds("38", "BEYOND: no such sheet. MISSING.", () -> {
            range("a sheet", 0, 3, s -> fourSheets(1).load(s));
            EveningCloak x = room("coat");
            for (int s = 0; s < 4; s++) due("sheet " + s, x.load(s), MISSING);
        });
    }

    /** Sheets of a number each, and no deposit. */
    private static EveningCloak fourEmpty() {
        EveningCloak x = new EveningCloak();
        for (int s = 0; s < 4; s++) x.sheet(s, 8, 1);
        return x;
    }

    private void judges() {
        holds("39", "numbers of a sheet are how WORN DEPOSITS 0, 1, .. are: 0 if so; else 1 and the place of the first that isn't so.", () -> {
            EveningCloak x = room("coat worn 99;coat;coat worn 5");
            x.sheet(0, 8, 0);
            due("none", x.judge(0), 0);
            x.sheet(0, 8, 3);
            due("the first isn't so", x.judge(0), 1);
            x.write(0, 0, 98);
            due("one less", x.judge(0), 1);
            x.write(0, 0, 99);
            due("the third isn't so", x.judge(0), 3);
            x.write(0, 1, 1);
            due("the second isn't so, either", x.judge(0), 2);
            x.write(0, 1, 0);
            x.write(0, 2, 5);
            due("all are so", x.judge(0), 0);
            x.sheet(1, 8, 40);
            x.copy(0, 0, 1, 0, 3);
            due("there is no fourth", x.judge(1), 4);
            x.sheet(0, 8, 1);
            x.write(0, 0, 99);
            due("a short one", x.judge(0), 0);
            due("no deposit at all", fourEmpty().judge(0), 1);
            EveningCloak out = room("coat worn 7 out");
            out.sheet(0, 8, 1);
            due("what is out is worn, too", out.judge(0), 1);
            out.write(0, 0, 7);
            due("what is out is worn, too", out.judge(0), 0);
        });
        holds("39", "BEYOND: no such sheet. MISSING.", () -> {
            range("a sheet", 0, 3, s -> fourSheets(1).judge(s));
            EveningCloak x = room("coat");
            for (int s = 0; s < 4; s++) due("sheet " + s, x.judge(s), MISSING);
        });
    }
}
