/** Each promise of the document by its number: ordinary inputs, the edges, wrong inputs. */
public final class PromisesTest {
    private static final int BEYOND = -1000001;
    private static final int FULL = -1000002;
    private static final int KIND = -1000003;
    private static final int NONE = -1000004;
    private static final int MISSING = -1000006;
    private static final int SIZE = -1000007;
    private static final int COAT = 0;
    private static final int EVENING = 1;
    private static final int HAT = 2;
    private static final int DUSK = 3;
    private static final int MOON = 4;
    private static final int UMBRELLA = 5;
    private static final int TOPPER = 6;
    private static final int LEAST = Integer.MIN_VALUE;
    private static final int MOST = Integer.MAX_VALUE;

    private static int wrong = 0;
    private static int asked = 0;

    private static void due(String what, long got, long want) {
        asked++;
        if (got != want) {
            wrong++;
            System.out.println("promise " + what + " answered " + got + ", due is " + want);
        }
    }

    public static void main(String[] args) {
        newObject();
        standAndListed();
        deposit();
        girl();
        ofShines();
        ofReachesWearsCosts();
        change();
        ofGirlAndWake();
        light();
        call();
        go();
        goMeets();
        goWears();
        goLimits();
        now();
        aheadLaterDawn();
        meetsThreadbareEarns();
        hangForStandForKindFor();
        hopeFor();
        giveOut();
        fits();
        kinds();
        night();
        odds();
        seed();
        feedAndWipe();
        textTells();
        textFaults();
        textLimits();
        holdAndAs();
        sheetAndWrite();
        copy();
        load();
        judge();
        images();
        count();
        status();
        System.out.println(wrong == 0 ? asked + " answers are as due" : wrong + " answers are not as due");
        if (wrong != 0) System.exit(1);
    }

    private static EveningCloak room(String... texts) {
        EveningCloak x = new EveningCloak();
        for (String text : texts) {
            if (tell(x, text) < 1) throw new IllegalStateException(text);
        }
        return x;
    }

    private static int tell(EveningCloak x, String text) {
        for (int i = 0; i < text.length(); i++) x.feed(text.charAt(i), 1);
        return x.text();
    }

    private static void newObject() {
        EveningCloak x = new EveningCloak();
        for (int i = 0; i < 6; i++) due("1 listed", x.listed(i), 0);
        for (int i = 0; i < 8; i++) due("1 count " + i, x.count(i), i == 6 ? 1 : 0);
        for (int i = 0; i < 4; i++) due("1 sheet is missing", x.judge(i), MISSING);
        for (int i = 0; i < 10; i++) due("1 spot holds nothing", x.as(i, COAT), MISSING);
        due("1 no image", x.undo(), NONE);
        due("1 no image to tear", x.tear(), 0);
        due("1 tape is empty", x.wipe(), 0);
        due("1 status", new EveningCloak().status(-1), 0);
    }

    private static void standAndListed() {
        EveningCloak x = new EveningCloak();
        due("2 first", x.stand(5, 5, 15), 0);
        due("2 what it was", x.stand(5, 3, 7), 515);
        due("2 least", x.stand(0, 0, 0), 0);
        due("3 what it is", x.listed(5), 307);
        due("3 others stay", x.listed(4), 0);
        int[][] bad = {{-1, 0, 0}, {6, 0, 0}, {0, -1, 0}, {0, 6, 0}, {0, 0, -1}, {0, 0, 16}, {MOST, MOST, MOST}, {LEAST, 0, 0}};
        for (int[] b : bad) due("2 beyond", x.stand(b[0], b[1], b[2]), BEYOND);
        due("2 nothing changed", x.listed(0), 0);
        due("3 beyond", x.listed(-1), BEYOND);
        due("3 beyond", x.listed(6), BEYOND);
        due("3 beyond", x.listed(LEAST), BEYOND);
    }

    private static void deposit() {
        EveningCloak x = new EveningCloak();
        for (int i = 0; i < 8; i++) due("4 number", x.deposit(i % 7, 2 * i), i);
        due("4 full", x.deposit(0, 0), FULL);
        due("4 beyond before full", x.deposit(7, 0), BEYOND);
        due("4 beyond", x.deposit(-1, 0), BEYOND);
        due("4 beyond", x.deposit(0, 16), BEYOND);
        due("4 beyond", x.deposit(0, -1), BEYOND);
        for (int i = 0; i < 8; i++) {
            due("4 kind", x.of(i, 0), i % 7);
            due("4 hanger", x.of(i, 1), 2 * i);
            due("4 stub", x.of(i, 2), 10 * i);
            due("4 kept", x.of(i, 3), 0);
            due("4 worn", x.of(i, 4), 0);
            due("4 out", x.of(i, 5), 0);
        }
    }

    private static void girl() {
        EveningCloak x = new EveningCloak();
        due("5 beyond", x.girl(0), BEYOND);
        due("5 beyond", x.girl(100), BEYOND);
        for (int i = 0; i < 6; i++) due("5 number", x.girl(i == 0 ? 1 : 94 + i), i);
        due("5 full", x.girl(1), FULL);
        due("5 beyond before full", x.girl(-1), BEYOND);
        due("5 dream", x.ofGirl(5, 0), 0);
        due("5 hope", x.ofGirl(5, 1), 99);
        due("5 hope", x.ofGirl(0, 1), 1);
        due("5 met", x.ofGirl(5, 2), 0);
    }

    private static void ofShines() {
        EveningCloak x = room("coat kept 999 worn 9", "evening kept 9", "hat worn 50", "dusk kept 10", "moon kept 35 worn 41",
            "umbrella worn 9", "topper kept 99 worn 99");
        int[] shines = {0, 20, 0, 10, 11 + 41, 0, 3};
        for (int d = 0; d < 7; d++) due("6 shines, kind " + d, x.of(d, 6), shines[d]);
        x.change(1, 3, 10);
        due("6 a tenth of kept", x.of(1, 6), 21);
        x.change(1, 3, 299);
        due("6 below the most", x.of(1, 6), 49);
        x.change(1, 3, 300);
        due("6 50 in all", x.of(1, 6), 50);
        x.change(1, 3, 9999);
        due("6 50 at most", x.of(1, 6), 50);
        x.change(3, 3, 9999);
        due("6 half of the most", x.of(3, 6), 25);
        x.change(3, 3, 19);
        due("6 half is cut", x.of(3, 6), 10);
        x.change(4, 3, 9999);
        x.change(4, 4, 99);
        due("6 moon at most", x.of(4, 6), 124);
        x.change(4, 5, 1);
        due("6 what is out shines as ever", x.of(4, 6), 124);
        due("6 but gives no light", x.light(0), 50 + 10 + 3);
        due("6 what is out reaches as ever", x.of(4, 7), 9);
        EveningCloak y = room("coat out", "evening kept 9 out", "hat out", "dusk kept 10 out", "moon kept 35 worn 41 out",
            "umbrella out", "topper out");
        for (int d = 0; d < 7; d++) due("6 shines, out, kind " + d, y.of(d, 6), shines[d]);
        int[][] bad = {{-1, 0}, {7, 0}, {0, -1}, {0, 10}, {LEAST, 0}, {MOST, 0}, {0, MOST}};
        for (int[] b : bad) due("6 beyond", x.of(b[0], b[1]), BEYOND);
    }

    private static void ofReachesWearsCosts() {
        EveningCloak x = room("coat", "evening on 1", "hat", "dusk", "moon worn 19", "umbrella on 15", "topper");
        int[] reaches = {0, 3, 0, 5, 5, 0, 0};
        int[] wearsEven = {1, 0, 0, 0, 1, 1, 0};
        int[] wearsOdd = {1, 0, 0, 1, 2, 1, 0};
        int[] costs = {2, 0, 1, 0, 0, 1, 3};
        for (int d = 0; d < 7; d++) {
            due("6 reaches, kind " + d, x.of(d, 7), reaches[d]);
            due("6 wears on day 0, kind " + d, x.of(d, 8), wearsEven[d]);
            due("6 costs, kind " + d, x.of(d, 9), costs[d]);
        }
        x.go(1);
        for (int d = 0; d < 7; d++) due("6 wears on day 1, kind " + d, x.of(d, 8), wearsOdd[d]);
        due("6 moon reaches by worn", x.of(4, 7), 6);
        x.change(4, 4, 99);
        due("6 moon reaches at most", x.of(4, 7), 9);
        x.change(5, 1, 4);
        due("6 umbrella in light", x.of(5, 8), 2);
        x.change(5, 5, 1);
        due("6 umbrella in light, out", x.of(5, 8), 2);
        due("6 umbrella out costs", x.of(5, 9), 1);
        EveningCloak y = room("umbrella on 5", "topper on 5");
        due("6 umbrella under a topper", y.of(0, 8), 2);
        y.change(1, 5, 1);
        due("6 umbrella in the dark", y.of(0, 8), 1);
        EveningCloak z = room("umbrella on 3", "moon");
        due("6 light of 1", z.light(3), 1);
        due("6 umbrella in a light of 1", z.of(0, 8), 2);
    }

    private static void change() {
        EveningCloak x = room("coat on 3 stub 4 kept 5 worn 6", "hat");
        int[] was = {0, 3, 4, 5, 6, 0};
        int[] most = {6, 15, 99, 9999, 99, 1};
        for (int what = 0; what < 6; what++) {
            due("7 beyond", x.change(0, what, most[what] + 1), BEYOND);
            due("7 beyond", x.change(0, what, -1), BEYOND);
            due("7 beyond", x.change(0, what, MOST), BEYOND);
            due("7 what it was", x.change(0, what, most[what]), was[what]);
            due("7 what it is", x.of(0, what), most[what]);
            due("7 most to least", x.change(0, what, 0), most[what]);
            due("7 least", x.of(0, what), 0);
        }
        due("7 the other stays", x.of(1, 0), HAT);
        due("7 no such what", x.change(0, 6, 0), BEYOND);
        due("7 no such what", x.change(0, -1, 0), BEYOND);
        due("7 no such deposit", x.change(2, 0, 0), BEYOND);
        due("7 no such deposit", x.change(-1, 0, 0), BEYOND);
    }

    private static void ofGirlAndWake() {
        EveningCloak x = room("girl hope 7", "girl");
        due("9 dream", x.wake(0, 0, 99), 0);
        due("9 hope", x.wake(0, 1, 1), 7);
        due("9 met", x.wake(0, 2, 9999), 0);
        due("8 dream", x.ofGirl(0, 0), 99);
        due("8 hope", x.ofGirl(0, 1), 1);
        due("8 met", x.ofGirl(0, 2), 9999);
        due("8 another's dream", x.ofGirl(1, 0), 0);
        due("8 another's hope", x.ofGirl(1, 1), 50);
        due("9 hope of 0", x.wake(0, 1, 0), BEYOND);
        int[][] bad = {{0, 0, 100}, {0, 0, -1}, {0, 1, 100}, {0, 2, 10000}, {0, 2, -1}, {0, 3, 1}, {0, -1, 1}, {2, 0, 1}, {-1, 0, 1}};
        for (int[] b : bad) due("9 beyond", x.wake(b[0], b[1], b[2]), BEYOND);
        due("9 least", x.wake(0, 0, 0), 99);
        due("9 least", x.wake(0, 2, 0), 9999);
        int[][] none = {{2, 0}, {-1, 0}, {0, 3}, {0, -1}, {MOST, LEAST}};
        for (int[] b : none) due("8 beyond", x.ofGirl(b[0], b[1]), BEYOND);
    }

    private static void light() {
        EveningCloak x = room("evening on 5");
        int[] lit = {0, 0, 11, 14, 17, 20, 17, 14, 11, 0, 0};
        for (int h = 0; h < lit.length; h++) due("10 light at " + h, x.light(h), lit[h]);
        x.deposit(MOON, 5);
        // A moon of 10, unworn: 10, 7, 4, 1, then nothing, though it reaches 5.
        int[] both = {0, 0, 12, 18, 24, 30, 24, 18, 12, 0, 0};
        for (int h = 0; h < both.length; h++) due("10 light together at " + h, x.light(h), both[h]);
        x.change(0, 5, 1);
        due("10 out gives no light", x.light(5), 10);
        x.change(1, 4, 99);
        due("10 worn moon, nine off", x.light(14), 10 + 99 - 27);
        due("10 worn moon, ten off", x.light(15), 0);
        due("10 beyond", x.light(16), BEYOND);
        due("10 beyond", x.light(-1), BEYOND);
        due("10 beyond", x.light(LEAST), BEYOND);
        due("10 a topper only where it hangs", room("topper on 2").light(3), 0);
    }

    private static void call() {
        EveningCloak x = room("coat stub 7", "hat stub 7", "moon stub 99", "dusk stub 0 out");
        due("11 the least number", x.call(7), 0);
        due("11 out", x.of(0, 5), 1);
        due("11 the next one", x.call(7), 1);
        due("11 no more", x.call(7), NONE);
        due("11 all are out", x.call(0), NONE);
        due("11 most", x.call(99), 2);
        due("11 nobody's", x.call(50), NONE);
        due("11 beyond", x.call(100), BEYOND);
        due("11 beyond", x.call(-1), BEYOND);
    }

    private static void go() {
        EveningCloak x = room("coat", "hat", "topper", "umbrella", "evening", "moon", "coat out");
        due("12 fees", x.go(1), 7);
        due("12 fees of 60 more", x.go(60), 427);
        due("12 day", x.count(0), 61);
        due("12 kept", x.of(0, 3), 61);
        due("12 worn", x.of(0, 4), 61);
        due("12 out is not kept", x.of(6, 3), 0);
        due("12 out is not worn", x.of(6, 4), 0);
        due("12 beyond", x.go(0), BEYOND);
        due("12 beyond", x.go(61), BEYOND);
        due("12 beyond", x.go(-1), BEYOND);
        due("12 beyond", x.go(MOST), BEYOND);
        due("12 no day went by", x.count(0), 61);
    }

    private static void goMeets() {
        EveningCloak x = room("evening on 3", "girl hope 40", "girl hope 17", "stand 0 0 3;stand 1 1 4;stand 2 1 15;stand 3 5 3");
        x.stand(4, 5, 3);
        x.stand(5, 5, 3);
        x.go(1);
        due("12 dream is light more", x.ofGirl(0, 0), 20);
        x.go(1);
        due("12 hope is met when as great", x.ofGirl(1, 2), 1);
        due("12 and the dream is over", x.ofGirl(1, 0), 0);
        x.go(1);
        due("12 no light, no dream", x.ofGirl(1, 0), 0);
        x.go(3);
        due("12 a girl who isn't there", x.count(4), 1);
        x.go(1);
        due("12 the list begins again", x.ofGirl(0, 2), 1);
        due("12 dream of before", x.ofGirl(0, 0), 0);
        EveningCloak y = room("moon kept 9999 worn 99", "girl hope 99", "stand 0 0 0");
        y.wake(0, 2, 9999);
        y.go(1);
        due("12 99 at most is met by 99", y.ofGirl(0, 0), 0);
        due("12 met 9999 at most", y.ofGirl(0, 2), 9999);
        EveningCloak z = room("girl hope 5", "stand 1 0 0");
        z.stand(0, 1, 0);
        z.wake(0, 0, 5);
        z.go(1);
        due("12 not her stand", z.ofGirl(0, 0), 5);
        z.go(1);
        due("12 her stand, without light", z.ofGirl(0, 2), 1);
    }

    private static void goWears() {
        EveningCloak x = room("dusk", "moon", "evening");
        x.go(1);
        due("12 dusk on an even day", x.of(0, 4), 0);
        due("12 moon on an even day", x.of(1, 4), 1);
        x.go(1);
        due("12 dusk on an odd day", x.of(0, 4), 1);
        due("12 moon on an odd day", x.of(1, 4), 3);
        due("12 evening", x.of(2, 4), 0);
        // The moon's reach grows to 6 when it is worn 20: the umbrella behind it sees that on the same day.
        EveningCloak behind = room("moon on 0 kept 300 worn 19", "umbrella on 6");
        behind.go(1);
        due("12 as they are then, behind the moon", behind.of(1, 4), 2);
        EveningCloak before = room("umbrella on 6", "moon on 0 kept 300 worn 19");
        before.go(1);
        due("12 as they are then, before the moon", before.of(0, 4), 1);
    }

    private static void goLimits() {
        EveningCloak x = room("coat kept 9998 worn 98", "umbrella worn 98", "topper");
        x.change(1, 1, 0);
        x.go(5);
        due("12 kept at most", x.of(0, 3), 9999);
        due("12 worn at most", x.of(0, 4), 99);
        due("12 worn at most, by 2", x.of(1, 4), 99);
        for (int i = 0; i < 5; i++) x.deposit(TOPPER, 0);
        for (int i = 0; i < 78; i++) x.go(60);
        due("12 fees before the most", x.go(60), 5 * 6 + 79 * 60 * 21);
        due("12 fees at most", x.go(60), 99999);
        due("13 fees at most", x.now(1), 99999);
        due("19 fees at most", x.earns(99999), 0);
    }

    private static void now() {
        EveningCloak x = room("evening on 4", "coat on 9 out", "topper on 12", "girl hope 20", "girl", "stand 0 0 4;stand 1 1 4");
        due("13 day", x.now(0), 0);
        due("13 out", x.now(3), 2);
        due("13 dark", x.now(4), 0xffff & ~(0x7f << 1) & ~(1 << 12));
        due("13 lightest", x.now(5), 4);
        due("13 costs", x.now(6), 3);
        x.go(2);
        due("13 day", x.now(0), 2);
        due("13 fees", x.now(1), 6);
        due("13 met", x.now(2), 1);
        due("13 dreams", x.now(7), 20);
        x.wake(0, 0, 9);
        x.wake(1, 2, 30);
        due("13 dreams together", x.now(7), 29);
        due("13 met together", x.now(2), 31);
        due("13 beyond", x.now(8), BEYOND);
        due("13 beyond", x.now(-1), BEYOND);
        due("13 nothing anywhere", new EveningCloak().now(4), 65535);
        due("13 lightest of none", new EveningCloak().now(5), 0);
        due("13 lightest, the least", room("topper on 9", "topper on 2").now(5), 2);
        due("13 lightest at the second", room("topper on 1").now(5), 1);
        due("13 lightest at the begin", room("topper", "topper on 1").now(5), 0);
        due("13 lightest at the end", room("topper on 15").now(5), 15);
    }

    private static void aheadLaterDawn() {
        EveningCloak x = room("moon on 3 kept 95 worn 10", "dusk out", "girl hope 50",
            "stand 0 0 3;stand 1 5 0;stand 2 5 0;stand 3 5 0;stand 4 5 0;stand 5 5 0");
        due("14 now", x.ahead(0, 3, 0), 95);
        due("14 kept", x.ahead(0, 3, 100), 195);
        due("14 worn", x.ahead(0, 4, 7), 20);
        due("14 shines", x.ahead(0, 6, 7), 15 + 20);
        due("14 reaches", x.ahead(0, 7, 7), 6);
        due("14 worn at most", x.ahead(0, 4, 100), 99);
        due("14 out", x.ahead(1, 3, 50), 0);
        due("14 what is out shines as now", x.ahead(1, 6, 0), 10);
        due("14 and is kept no longer", x.ahead(1, 6, 100), 10);
        int[][] bad = {{2, 3, 0}, {-1, 3, 0}, {0, 0, 0}, {0, 5, 0}, {0, 8, 0}, {0, 9, 0}, {0, 2, 0}, {0, 3, -1}, {0, 3, 101}};
        for (int[] b : bad) due("14 beyond", x.ahead(b[0], b[1], b[2]), BEYOND);
        due("15 dream now", x.later(0, 0, 0), 0);
        due("15 dream", x.later(0, 0, 1), 14 + 10);
        due("15 dream stays", x.later(0, 0, 6), 24);
        due("15 met", x.later(0, 2, 7), 1);
        due("15 dream is over", x.later(0, 0, 7), 0);
        int[][] none = {{1, 0, 0}, {-1, 0, 0}, {0, 1, 0}, {0, 3, 0}, {0, 0, -1}, {0, 2, 101}};
        for (int[] b : none) due("15 beyond", x.later(b[0], b[1], b[2]), BEYOND);
        due("16 now", x.dawn(3, 0), 24);
        due("16 light", x.dawn(3, 7), 35);
        due("16 farther", x.dawn(9, 7), 35 - 18);
        due("16 too far before", x.dawn(9, 6), 0);
        due("16 most", x.dawn(3, 100), 19 + 99);
        int[][] dark = {{-1, 0}, {16, 0}, {0, -1}, {0, 101}};
        for (int[] b : dark) due("16 beyond", x.dawn(b[0], b[1]), BEYOND);
        due("14 to 16 nothing changed", x.count(0) + x.of(0, 4) + x.ofGirl(0, 0), 10);
    }

    private static void meetsThreadbareEarns() {
        EveningCloak x = room("evening on 3", "coat", "girl hope 40", "girl", "stand 0 0 3;stand 1 5 3;stand 2 5 3;stand 3 5 3;stand 4 5 3");
        x.stand(5, 5, 0);
        due("17 already", x.meets(0, 0), 0);
        due("17 the second stand", x.meets(0, 1), 7);
        due("17 again", x.meets(0, 2), 19);
        due("17 never", x.meets(1, 1), NONE);
        due("17 too late", x.meets(0, 9999), NONE);
        int[][] bad = {{2, 0}, {-1, 0}, {0, -1}, {0, 10000}};
        for (int[] b : bad) due("17 beyond", x.meets(b[0], b[1]), BEYOND);
        due("18 already", x.threadbare(0, 0), 0);
        due("18 never", x.threadbare(0, 1), NONE);
        due("18 coat", x.threadbare(1, 99), 99);
        int[][] none = {{2, 0}, {-1, 0}, {0, -1}, {0, 100}};
        for (int[] b : none) due("18 beyond", x.threadbare(b[0], b[1]), BEYOND);
        due("19 already", x.earns(0), 0);
        due("19 in two days", x.earns(3), 2);
        due("19 the last day", x.earns(400), 200);
        due("19 a day too late", x.earns(401), NONE);
        due("19 beyond", x.earns(-1), BEYOND);
        due("19 beyond", x.earns(100000), BEYOND);
        due("17 to 19 nothing changed", x.count(0) + x.count(3), 0);
    }

    private static void hangForStandForKindFor() {
        EveningCloak x = room("evening on 0", "girl hope 20", "girl hope 14", "stand 0 0 9;stand 1 1 11");
        due("20 by one", x.hangFor(0, 1), 9);
        due("20 by both", x.hangFor(0, 2), 9);
        x.wake(1, 1, 20);
        x.wake(0, 1, 14);
        due("20 by the other", x.hangFor(0, 2), 11);
        due("20 no days, the least", x.hangFor(0, 0), 0);
        int[][] bad = {{1, 0}, {-1, 0}, {0, -1}, {0, 41}};
        for (int[] b : bad) due("20 beyond", x.hangFor(b[0], b[1]), BEYOND);
        due("20 nothing changed", x.of(0, 1), 0);
        EveningCloak y = room("evening on 6", "girl", "girl hope 20", "stand 2 1 0");
        due("21 the girl of the place", y.standFor(2, 3), 6);
        due("21 not yet her day", y.standFor(2, 2), 0);
        due("21 another place", y.standFor(1, 40), 4);
        due("21 the first place", y.standFor(0, 40), 4);
        due("21 the last place", y.standFor(5, 40), 5);
        due("21 no days", y.standFor(5, 0), 0);
        due("21 the list stays", y.listed(2), 100);
        int[][] none = {{-1, 0}, {6, 0}, {0, -1}, {0, 41}};
        for (int[] b : none) due("21 beyond", y.standFor(b[0], b[1]), BEYOND);
        EveningCloak z = room("topper on 6", "girl hope 3", "stand 0 0 6");
        due("22 the least of several", z.kindFor(0, 1), EVENING);
        z.change(0, 4, 10);
        z.wake(0, 1, 20);
        due("22 evening", z.kindFor(0, 1), EVENING);
        z.change(0, 4, 30);
        z.wake(0, 1, 40);
        due("22 moon", z.kindFor(0, 1), MOON);
        due("22 no days", z.kindFor(0, 0), COAT);
        due("22 nothing changed", z.of(0, 0), TOPPER);
        int[][] never = {{-1, 0}, {1, 0}, {0, -1}, {0, 41}};
        for (int[] b : never) due("22 beyond", z.kindFor(b[0], b[1]), BEYOND);
    }

    private static void hopeFor() {
        EveningCloak x = room("evening on 3", "girl", "girl", "stand 0 0 3;stand 1 5 0;stand 2 5 0;stand 3 5 0;stand 4 5 0");
        x.stand(5, 5, 0);
        due("23 no days", x.hopeFor(0, 0), NONE);
        due("23 one stand", x.hopeFor(0, 1), 20);
        due("23 one stand", x.hopeFor(0, 6), 20);
        due("23 two stands", x.hopeFor(0, 7), 40);
        due("23 seven stands", x.hopeFor(0, 40), 99);
        due("23 no stand of hers", x.hopeFor(1, 40), NONE);
        x.wake(1, 0, 99);
        due("23 a dream without a stand", x.hopeFor(1, 40), NONE);
        x.wake(0, 0, 30);
        due("23 with a dream", x.hopeFor(0, 1), 50);
        x.wake(0, 2, 9999);
        due("23 it can't be more", x.hopeFor(0, 1), NONE);
        due("23 hope stays", x.ofGirl(0, 1), 50);
        EveningCloak y = room("girl", "stand 0 0 3");
        due("23 no light", y.hopeFor(0, 40), NONE);
        y.wake(0, 0, 1);
        due("23 no light but a dream", y.hopeFor(0, 40), 1);
        int[][] bad = {{-1, 0}, {1, 0}, {0, -1}, {0, 41}};
        for (int[] b : bad) due("23 beyond", y.hopeFor(b[0], b[1]), BEYOND);
    }

    private static void giveOut() {
        EveningCloak x = room("topper on 3", "evening on 3", "coat", "moon on 3", "girl hope 25", "stand 0 0 3");
        due("24 nothing need be given", x.giveOut(0), 0);
        due("24 the least of one", x.giveOut(1), 2);
        x.wake(0, 1, 12);
        due("24 two", x.giveOut(1), 3);
        x.wake(0, 1, 3);
        due("24 all that shine", x.giveOut(1), 11);
        x.change(0, 5, 1);
        due("24 what is out already", x.giveOut(1), 10);
        x.wake(0, 0, 3);
        due("24 she meets him all the same", x.giveOut(1), NONE);
        x.wake(0, 2, 9999);
        due("24 met can't be more", x.giveOut(20), 0);
        due("24 beyond", x.giveOut(21), BEYOND);
        due("24 beyond", x.giveOut(-1), BEYOND);
        due("24 nothing changed", x.now(3), 1);
        EveningCloak y = room("moon on 0", "moon on 0", "girl hope 10", "stand 0 0 0");
        due("24 fewest, then least", y.giveOut(1), 3);
        y.wake(0, 1, 11);
        due("24 one of two", y.giveOut(1), 1);
    }

    private static void fits() {
        EveningCloak x = room("evening on 0", "moon on 9");
        due("25 no such sheet", x.fits(4, 9), BEYOND);
        due("25 no such sheet", x.fits(-1, 0), BEYOND);
        due("25 missing first", x.fits(0, 9), MISSING);
        x.sheet(0, 8, 0);
        due("25 no such deposit", x.fits(0, 2), BEYOND);
        due("25 no such deposit", x.fits(0, -1), BEYOND);
        due("25 nothing told", x.fits(0, 0), 65535);
        x.sheet(0, 8, 1);
        x.write(0, 0, 20);
        due("25 where it is, or far off", x.fits(0, 1), 0xfff0);
        x.write(0, 0, 27);
        due("25 one off", x.fits(0, 1), 2);
        x.write(0, 0, 255);
        due("25 any", x.fits(0, 1), 65535);
        x.write(0, 0, 0);
        due("25 dark but for the other", x.fits(0, 0), 0xfff0);
        // A moon: 10, 11, 13, 14, ..; one hanger off 7, 8, 10, ...
        x.sheet(1, 16, 9);
        int[] told = {27, -1, 30, 31, -1, -1, -1, -1, 5};
        for (int i = 0; i < told.length; i++) x.write(1, i, told[i]);
        due("25 days further on, eight alone", x.fits(1, 1), 2);
        x.write(1, 7, 5);
        due("25 the eighth", x.fits(1, 1), 0);
        due("25 nothing changed", x.of(1, 1), 9);
        EveningCloak y = room("moon kept 300 worn 99", "moon kept 300 worn 99");
        y.sheet(0, 16, 1);
        y.write(0, 0, 248);
        due("25 light above 127 in 16 bits", y.fits(0, 0), 1);
        y.sheet(0, 8, 1);
        y.write(0, 0, 248);
        due("25 8 bits have a sign", y.fits(0, 0), 0);
    }

    private static void kinds() {
        EveningCloak x = room("coat kept 0 worn 10", "topper on 0");
        due("26 no such sheet", x.kinds(4, 9), BEYOND);
        due("26 missing first", x.kinds(3, 9), MISSING);
        x.sheet(3, 32, 1);
        due("26 no such deposit", x.kinds(3, 2), BEYOND);
        x.write(3, 0, 3);
        due("26 those that don't shine", x.kinds(3, 0), 1 << COAT | 1 << HAT | 1 << UMBRELLA);
        x.write(3, 0, 23);
        due("26 evening or a worn moon", x.kinds(3, 0), 1 << EVENING | 1 << MOON);
        x.write(3, 0, 13);
        due("26 dusk", x.kinds(3, 0), 1 << DUSK);
        x.sheet(3, 32, 2);
        x.write(3, 0, 23);
        x.write(3, 1, 24);
        due("26 moon by the next day", x.kinds(3, 0), 1 << MOON);
        x.write(3, 0, -1);
        x.write(3, 1, -1);
        due("26 any", x.kinds(3, 0), 127);
        due("26 nothing changed", x.of(0, 0), COAT);
    }

    private static void night() {
        EveningCloak x = room("evening on 4", "girl hope 1");
        // z: 1103527590 after one draw from 1; >>> 8 is 4310654, by 6 it leaves 2.
        int z = 1 * 1103515245 + 12345;
        int girl = (z >>> 8) % 6;
        z = z * 1103515245 + 12345;
        int hanger = (z >>> 8) % 16;
        due("27 met", x.night(1), 0);
        due("27 the stand of the day", x.listed(0), 100 * girl + hanger);
        due("27 first girl drawn", girl, 2);
        due("27 z", x.count(6), z);
        due("27 day", x.count(0), 1);
        z = z * 1103515245 + 12345;
        girl = (z >>> 8) % 6;
        z = z * 1103515245 + 12345;
        due("27 the next stand", x.night(1) * 0 + x.listed(1), 100 * girl + (z >>> 8) % 16);
        x.seed(-1);
        z = -1 * 1103515245 + 12345;
        girl = (z >>> 8) % 6;
        z = z * 1103515245 + 12345;
        x.night(1);
        due("27 z below 0", x.listed(2), 100 * girl + (z >>> 8) % 16);
        due("27 twenty", x.night(20) >= 0 ? x.count(0) : -1, 23);
        due("27 beyond", x.night(0), BEYOND);
        due("27 beyond", x.night(21), BEYOND);
        due("27 beyond", x.night(-1), BEYOND);
        EveningCloak y = room("girl hope 1", "girl hope 1", "girl hope 1", "moon worn 99", "moon on 15 worn 99");
        due("27 met of all together", y.night(3), y.count(4));
        due("27 somebody is met", y.count(4) > 0 ? 1 : 0, 1);
    }

    private static void odds() {
        EveningCloak x = new EveningCloak();
        due("28 none asked in the dark", x.odds(0, 0), 1);
        due("28 none asked in the dark", x.odds(0, 1), 1);
        due("28 never", x.odds(1, 0), 0);
        due("28 never, lowest", x.odds(15, 1), 1);
        x.deposit(TOPPER, 3);
        due("28 one of 16", x.odds(15, 0), 1);
        due("28 one of 16", x.odds(15, 1), 1L << 60);
        x.deposit(TOPPER, 4);
        due("28 an eighth", x.odds(2, 1), 64);
        x.deposit(TOPPER, 5);
        due("28 three of 16", x.odds(3, 0), 27);
        due("28 three of 16", x.odds(3, 1), 4096);
        for (int h = 8; h < 11; h++) x.deposit(TOPPER, h);
        due("28 six of 16", x.odds(2, 0), 9);
        due("28 six of 16", x.odds(2, 1), 64);
        EveningCloak y = room("moon on 6 worn 99", "topper on 0");
        due("28 all light", y.odds(15, 0), 1);
        due("28 all light", y.odds(15, 1), 1);
        y.change(0, 1, 5);
        due("28 fifteen of 16", y.odds(15, 0), 437893890380859375L);
        due("28 fifteen of 16", y.odds(15, 1), 1L << 60);
        int[][] bad = {{-1, 0}, {16, 0}, {0, -1}, {0, 2}};
        for (int[] b : bad) due("28 beyond", y.odds(b[0], b[1]), BEYOND);
    }

    private static void seed() {
        EveningCloak x = new EveningCloak();
        due("29 at first", x.seed(-1000001), 1);
        due("29 what it was", x.seed(LEAST), -1000001);
        due("29 no finding", x.status(-1), 0);
        due("29 what it is", x.count(6), LEAST);
    }

    private static void feedAndWipe() {
        EveningCloak x = new EveningCloak();
        due("30 three", x.feed(0xff686174, 3), 3);
        due("30 read high byte first", x.text(), 1);
        due("30 a hat", x.of(0, 0), HAT);
        for (int i = 1; i <= 29; i++) due("30 four", x.feed(-1, 4), 4 * i);
        due("30 two", x.feed(0, 2), 118);
        due("30 full", x.feed(0, 3), FULL);
        due("30 just full", x.feed(0, 2), 120);
        due("30 full", x.feed(0, 1), FULL);
        due("30 beyond before full", x.feed(0, 0), BEYOND);
        due("30 beyond", x.feed(0, 5), BEYOND);
        due("30 beyond", x.feed(0, -1), BEYOND);
        due("31 how many", x.wipe(), 120);
        due("31 empty", x.wipe(), 0);
        due("31 from the begin", x.feed(1, 1), 1);
    }

    private static void textTells() {
        EveningCloak x = new EveningCloak();
        due("32 items", tell(x, "moon on015stub099kept09999worn099out;girl hope09 ; stand5 4 15;girl;  umbrella kept 7  "), 5);
        int[] moon = {MOON, 15, 99, 9999, 99, 1};
        int[] umbrella = {UMBRELLA, 0, 10, 7, 0, 0};
        for (int i = 0; i < 6; i++) {
            due("32 moon", x.of(0, i), moon[i]);
            due("32 umbrella", x.of(1, i), umbrella[i]);
        }
        due("32 hope", x.ofGirl(0, 1), 9);
        due("32 hope at first", x.ofGirl(1, 1), 50);
        due("32 stand", x.listed(5), 415);
        due("32 the tape is empty", x.count(5), 0);
        due("32 a later item counts", tell(x, "stand 0 1 1;stand 0 2 2"), 2);
        due("32 a later item counts", x.listed(0), 202);
        String[] words = {"coat", "evening", "hat", "dusk", "moon", "umbrella", "topper"};
        for (int kind = 0; kind < 7; kind++) due("32 word " + words[kind], room(words[kind]).of(0, 0), kind);
        due("32 many zeros", tell(x, "hat on 0000000000000000000000015"), 1);
        due("32 many zeros", x.of(2, 1), 15);
    }

    private static void textFaults() {
        String[] texts = {"", "   ", "glove", "Hat", "hats", "hat;", "hat; ", "hat;;hat", ";hat", "hat on", "hat on 16",
            "hat on x", "hat on -1", "hat stub 100", "hat stub 1 on 1", "hat kept 10000", "hat worn 100", "hat out out",
            "hat worn 1 kept 1", "hat 5", "hat coat", "hat#", "hat\t", "girl hope 0", "girl hope 100", "girl hope", "girl on 1",
            "girl hope 5 hope 5", "stand", "stand 6 0 0", "stand 0 6 0", "stand 0 0 16", "stand 0 0", "stand 0 0 0 0",
            "stand 000", "5", "on 5", "hat on 4294967296", "hat on 99999999999999999999", "hatstub 5", "hat;moon on 3;dusk stub",
            "hat\u0000", "\u00ff", "hat \u00e8", "stand 0 0 10000", "hat out kept 1", "boat", "hatz", "z"};
        int[] faults = {0, 3, 0, 0, 0, 4, 5, 4, 0, 6, 7,
            7, 7, 9, 11, 9, 9, 8,
            11, 4, 4, 3, 3, 10, 10, 9, 5,
            12, 5, 6, 8, 10, 9, 12,
            9, 0, 0, 7, 7, 0, 23,
            3, 0, 4, 10, 8, 0, 0, 0};
        for (int i = 0; i < texts.length; i++) {
            EveningCloak x = new EveningCloak();
            due("32 fault in '" + texts[i] + "'", tell(x, texts[i]), -1 - faults[i]);
            due("32 nothing told by '" + texts[i] + "'", x.count(1) + x.count(2) + x.listed(0), 0);
            due("32 the tape is empty", x.count(5), 0);
            due("32 no finding", x.status(-1), 0);
        }
        EveningCloak y = room("hat on 3");
        due("32 fault behind a good item", tell(y, "coat;stand 0 3 3;girl;moo"), -23);
        due("32 nothing changes", y.count(1) + y.count(2) + y.listed(0), 1);
    }

    private static void textLimits() {
        EveningCloak x = room("hat;hat;hat;hat;hat;hat", "girl;girl;girl;girl;girl");
        due("32 the ninth", tell(x, "coat;coat;coat"), -11);
        due("32 nothing changes", x.count(1), 6);
        due("32 the eighth", tell(x, "coat;coat"), 2);
        due("32 the ninth", tell(x, " moon"), -2);
        due("32 the seventh girl", tell(x, "girl;girl hope 5"), -6);
        due("32 the sixth girl", tell(x, "girl hope 99"), 1);
        due("32 the seventh girl", tell(x, "girl"), -1);
        due("32 the stub of the eighth", x.of(7, 2), 70);
        due("32 stands all the same", tell(x, "stand 1 1 1"), 1);
        StringBuilder all = new StringBuilder("hat");
        while (all.length() < 120) all.append(' ');
        due("32 a whole tape", tell(new EveningCloak(), all.toString()), 1);
        all.setCharAt(119, '9');
        due("32 a whole tape with a fault at its end", tell(new EveningCloak(), all.toString()), -120);
    }

    private static void holdAndAs() {
        EveningCloak x = room("coat", "evening", "hat", "dusk", "moon", "umbrella", "topper");
        // Of each kind the set of those as which it can be taken.
        int[] oneOf = {1, 3, 5, 11, 27, 33, 69};
        for (int d = 0; d < 7; d++) {
            due("33 hold", x.hold(9, d), 1);
            for (int k = 0; k < 7; k++) due("34 " + d + " as " + k, x.as(9, k), (oneOf[d] & 1 << k) != 0 ? d : KIND);
        }
        due("33 nothing", x.hold(9, -1), 1);
        due("34 missing", x.as(9, 0), MISSING);
        int[][] bad = {{-1, 0}, {10, 0}, {0, -2}, {0, 7}, {MOST, MOST}};
        for (int[] b : bad) due("33 beyond", x.hold(b[0], b[1]), BEYOND);
        int[][] none = {{-1, 0}, {10, 0}, {0, -1}, {0, 7}};
        for (int[] b : none) due("34 beyond before missing", x.as(b[0], b[1]), BEYOND);
        x.hold(0, 4);
        x.change(4, 0, HAT);
        due("34 of another kind since", x.as(0, DUSK), KIND);
        due("34 of another kind since", x.as(0, HAT), 4);
        due("34 another spot", x.as(1, HAT), MISSING);
    }

    private static void sheetAndWrite() {
        EveningCloak x = room("coat", "coat", "coat");
        due("35 none", x.sheet(0, 8, 0), 0);
        due("36 none to write", x.write(0, 0, 0), BEYOND);
        due("35 most", x.sheet(3, 32, 40), 40);
        due("36 the last", x.write(3, 39, 5), 1);
        due("35 missing", x.sheet(3, 0, 7), 0);
        due("36 missing", x.write(3, 0, 0), MISSING);
        due("36 missing first", x.write(3, -1, 0), MISSING);
        int[][] bad = {{-1, 8, 0}, {4, 8, 0}, {0, 7, 0}, {0, 64, 0}, {0, -8, 0}, {0, 24, -1}, {4, 8, -1}, {0, 8, 41}, {0, 0, 41}};
        for (int[] b : bad) due("35 beyond", x.sheet(b[0], b[1], b[2]), BEYOND);
        due("35 size", x.sheet(0, 8, -1), SIZE);
        due("35 size", x.sheet(0, 0, -1), SIZE);
        due("35 size", x.sheet(0, 32, LEAST), SIZE);
        x.sheet(1, 16, 3);
        int[][] none = {{-1, 0}, {4, 0}, {1, -1}, {1, 3}, {1, MOST}};
        for (int[] b : none) due("36 beyond", x.write(b[0], b[1], 0), BEYOND);
        due("35 all 0", x.judge(1), 0);
        x.change(2, 4, 44);
        due("36 lowest 16 bits", x.write(1, 2, 0x7fff002c), 1);
        due("36 lowest 16 bits", x.judge(1), 0);
        x.sheet(1, 8, 3);
        due("35 all 0 again", x.judge(1), 3);
        x.write(1, 2, 0x12c - 0x100 + 0x500);
        due("36 lowest 8 bits", x.judge(1), 0);
        x.sheet(1, 32, 3);
        x.write(1, 2, 0x12c);
        due("36 all 32 bits", x.judge(1), 3);
    }

    private static void copy() {
        EveningCloak x = room("coat stub 0", "coat", "coat", "coat", "coat");
        x.sheet(0, 8, 5);
        for (int i = 0; i < 5; i++) x.write(0, i, i + 1);
        due("37 within one, upwards", x.copy(0, 0, 0, 1, 4), 4);
        x.load(0);
        int[] up = {1, 1, 2, 3, 4};
        for (int i = 0; i < 5; i++) due("37 as they all were", x.of(i, 2), up[i]);
        due("37 within one, downwards", x.copy(0, 2, 0, 0, 3), 3);
        x.load(0);
        int[] down = {2, 3, 4, 3, 4};
        for (int i = 0; i < 5; i++) due("37 as they all were", x.of(i, 2), down[i]);
        due("37 missing", x.copy(0, 0, 1, 0, 1), MISSING);
        due("37 missing", x.copy(1, 0, 0, 0, 1), MISSING);
        due("37 no such sheet before missing", x.copy(1, 0, 4, 0, 1), BEYOND);
        due("37 no such sheet before missing", x.copy(-1, 0, 1, 0, 1), BEYOND);
        x.sheet(1, 16, 3);
        due("37 other bits", x.copy(0, 0, 1, 0, 1), KIND);
        due("37 other bits before beyond", x.copy(0, -1, 1, 0, 1), KIND);
        x.sheet(1, 8, 3);
        int[][] bad = {{0, 0, 1, 0, 4}, {1, 0, 0, 0, 4}, {0, 3, 1, 0, 3}, {0, 0, 1, 1, 3}, {0, -1, 1, 0, 1}, {0, 0, 1, -1, 1},
            {0, 0, 1, 0, -1}, {0, MOST, 1, 0, 1}, {0, 0, 1, MOST, MOST}, {0, 6, 1, 0, 0}, {0, 0, 1, 4, 0}};
        for (int[] b : bad) due("37 beyond", x.copy(b[0], b[1], b[2], b[3], b[4]), BEYOND);
        due("37 none", x.copy(0, 5, 1, 3, 0), 0);
        due("37 to another", x.copy(0, 1, 1, 0, 3), 3);
        x.load(1);
        int[] to = {3, 4, 3};
        for (int i = 0; i < 3; i++) due("37 to another", x.of(i, 2), to[i]);
    }

    private static void load() {
        EveningCloak x = room("coat", "coat", "coat");
        due("38 no such sheet", x.load(4), BEYOND);
        due("38 no such sheet", x.load(-1), BEYOND);
        due("38 missing", x.load(0), MISSING);
        x.sheet(0, 16, 5);
        int[] told = {99, 0, 100, 7, 7};
        for (int i = 0; i < 5; i++) x.write(0, i, told[i]);
        due("38 to the first above 99", x.load(0), 2);
        due("38 stub", x.of(0, 2), 99);
        due("38 stub", x.of(1, 2), 0);
        due("38 stub stays", x.of(2, 2), 20);
        x.write(0, 2, -1);
        due("38 to the first below 0", x.load(0), 2);
        x.write(0, 2, 5);
        due("38 to the last deposit", x.load(0), 3);
        x.sheet(0, 8, 1);
        due("38 a short sheet", x.load(0), 1);
        due("38 a short sheet", x.of(0, 2) + x.of(2, 2), 5);
        x.sheet(0, 8, 0);
        due("38 an empty sheet", x.load(0), 0);
    }

    private static void judge() {
        EveningCloak x = room("coat worn 5", "coat worn 99", "coat");
        due("39 no such sheet", x.judge(4), BEYOND);
        due("39 no such sheet", x.judge(-1), BEYOND);
        due("39 missing", x.judge(2), MISSING);
        x.sheet(2, 8, 0);
        due("39 an empty sheet", x.judge(2), 0);
        x.sheet(2, 8, 2);
        due("39 the first", x.judge(2), 1);
        x.write(2, 0, 5);
        due("39 the second", x.judge(2), 2);
        x.write(2, 1, 99);
        due("39 so", x.judge(2), 0);
        x.sheet(2, 8, 4);
        x.write(2, 0, 5);
        x.write(2, 1, 99);
        due("39 no such deposit", x.judge(2), 4);
    }

    private static void images() {
        EveningCloak x = room("coat on 1 stub 2 kept 3 worn 4", "girl hope 5", "stand 0 0 1");
        x.hold(0, 0);
        x.seed(77);
        x.go(1);
        due("40 image", x.image(), 1);
        x.sheet(0, 8, 3);
        tell(x, "moon;girl;stand 0 1 1");
        x.hold(0, 1);
        x.hold(1, 1);
        x.change(0, 5, 1);
        x.change(0, 2, 50);
        x.wake(0, 0, 4);
        x.night(3);
        x.feed(0, 2);
        int before = x.status(-1);
        due("41 day", x.undo(), 1);
        int[] counts = {1, 1, 1, 2, 0, 2, 77, 1};
        for (int i = 0; i < 8; i++) due("41 count " + i, x.count(i), counts[i]);
        int[] coat = {0, 1, 2, 4, 5, 0};
        for (int i = 0; i < 6; i++) due("41 coat " + i, x.of(0, i), coat[i]);
        due("41 dream", x.ofGirl(0, 0), 0);
        due("41 list", x.listed(0), 1);
        due("41 spot", x.as(0, COAT), 0);
        due("41 sheets stay as they are", x.load(0), 1);
        x.go(5);
        due("41 it stays", x.undo(), 1);
        due("41 a deposit anew", x.deposit(HAT, 3) * 100 + x.of(1, 2) + x.of(1, 3) + x.of(1, 5), 110);
        x.go(5);
        x.image();
        x.go(5);
        due("41 the latest", x.undo(), 6);
        due("42 tear", x.tear(), 1);
        due("42 torn", x.tear(), 0);
        due("41 none", x.undo(), NONE);
        due("41 nothing changed", x.count(0), 6);
        due("44 no finding taken back", x.status(-1), before + 1);
    }

    private static void count() {
        EveningCloak x = room("topper;topper out;girl;girl;girl");
        x.wake(2, 2, 9);
        x.wake(0, 2, 2);
        x.go(4);
        x.feed(1, 3);
        x.seed(-5);
        x.hold(3, 0);
        x.hold(9, 0);
        int[] counts = {4, 2, 3, 12, 11, 3, -5, 2};
        for (int i = 0; i < 8; i++) due("43 count " + i, x.count(i), counts[i]);
        due("43 beyond", x.count(8), BEYOND);
        due("43 beyond", x.count(-1), BEYOND);
    }

    private static void status() {
        EveningCloak x = new EveningCloak();
        x.light(16);
        x.light(-1);
        x.odds(16, 0);
        for (int i = 0; i < 9; i++) x.deposit(COAT, 0);
        x.hold(0, 0);
        x.as(0, MOON);
        x.undo();
        x.call(99);
        x.judge(0);
        x.sheet(0, 8, -1);
        x.text();
        int[] found = {3, 1, 1, 2, 0, 1, 1};
        for (int i = 0; i < 7; i++) due("44 status " + i, x.status(i), found[i]);
        due("44 all", x.status(-1), 9);
        due("44 beyond", x.status(7), BEYOND);
        due("44 counted from then on", x.status(0), 4);
        due("44 beyond", x.status(-2), BEYOND);
        due("44 all", x.status(-1), 11);
        x.image();
        x.go(0);
        x.undo();
        due("44 undo takes none back", x.status(0), 6);
    }
}
