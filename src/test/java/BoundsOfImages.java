/** Promises 40 to 44. */
final class BoundsOfImages extends Bounds {
    BoundsOfImages() {
        holds("40", "All but THE TAPE and SHEETS is kept: 1.", this::kept);
        holds("41", "It becomes what was kept latest (which stays): DAY.", () -> {
            EveningCloak x = room("coat");
            x.image();
            x.go(7);
            due("the first image", x.undo(), 0);
            x.go(3);
            x.image();
            x.go(5);
            due("the latest image", x.undo(), 3);
            x.go(1);
            due("it stays", x.undo(), 3);
            due("and again", x.undo(), 3);
            due("day", x.count(0), 3);
            due("fees", x.count(3), 6);
            x.change(0, 4, 50);
            due("what changes behind it stays out of it", x.undo() * 0 + x.of(0, 4), 3);
        });
        holds("41", "NONE: nothing is kept.", () -> {
            EveningCloak x = new EveningCloak();
            due("at first", x.undo(), NONE);
            x.image();
            due("something", x.undo(), 0);
            x.tear();
            due("torn", x.undo(), NONE);
            x.image();
            x.image();
            due("something again, kept twice", x.undo(), 0);
        });
        holds("42", "Nothing is kept: 1 if something was, else 0.", () -> {
            EveningCloak x = room("coat");
            due("nothing was", x.tear(), 0);
            x.image();
            x.image();
            x.go(2);
            due("something was", x.tear(), 1);
            due("nothing is", x.tear(), 0);
            due("all else stays", x.count(0), 2);
            x.image();
            x.undo();
            due("undo leaves it", x.tear(), 1);
        });
        holds("43", "0 DAY, 1 DEPOSITS, 2 GIRLS, 3 FEES, 4 MET of all together, 5 bytes of THE TAPE, 6 z, 7 SPOTS that hold something. "
            + "BEYOND: another what.", this::counts);
        holds("44", "How many acts answered a finding ever (undo() takes none back): which -1: all, 0 to 6: BEYOND to SIZE.", this::findings);
        holds("44", "BEYOND (counted from then on): another one.", () -> {
            range("which", -1, 6, which -> new EveningCloak().status(which));
            EveningCloak x = new EveningCloak();
            due("none yet", x.status(0), 0);
            due("too great", x.status(7), BEYOND);
            due("counted", x.status(0), 1);
            due("too small", x.status(-2), BEYOND);
            due("counted", x.status(0), 2);
            due("of all", x.status(-1), 2);
        });
    }

    private void kept() {
        keptOne();
        keptFull();
    }

    /** The last of each row is kept, too. */
    private void keptFull() {
        EveningCloak x = eightCoats();
        for (int g = 0; g < 6; g++) x.girl(9);
        int[] last = {TOPPER, 15, 98, 9998, 97, 0};
        int[] other = {COAT, 1, 2, 3, 4, 1};
        for (int what = 0; what < 6; what++) x.change(7, what, last[what]);
        for (int what = 0; what < 3; what++) x.wake(5, what, 20 + what);
        for (int spot = 0; spot < 10; spot++) x.hold(spot, 7);
        for (int i = 0; i < 6; i++) x.stand(i, 5, 9 + i);
        x.image();
        for (int what = 0; what < 6; what++) x.change(7, what, other[what]);
        for (int what = 0; what < 3; what++) x.wake(5, what, 70 + what);
        for (int spot = 0; spot < 10; spot++) x.hold(spot, 0);
        for (int i = 0; i < 6; i++) x.stand(i, 0, 0);
        x.undo();
        for (int what = 0; what < 6; what++) due("the last deposit, what " + what, x.of(7, what), last[what]);
        for (int what = 0; what < 3; what++) due("the last girl, what " + what, x.ofGirl(5, what), 20 + what);
        for (int spot = 0; spot < 10; spot++) due("spot " + spot, x.as(spot, COAT), 7);
        for (int i = 0; i < 6; i++) due("place " + i, x.listed(i), 509 + i);
    }

    private void keptOne() {
        EveningCloak x = room("moon on 1 stub 2 kept 3 worn 4 out;hat", "girl hope 5", "stand 5 4 3");
        x.wake(0, 0, 6);
        x.wake(0, 2, 7);
        x.hold(0, 1);
        x.hold(9, 0);
        x.seed(88);
        x.go(2);
        x.wake(0, 0, 6);
        x.wake(0, 2, 7);
        x.sheet(0, 8, 1);
        x.sheet(1, 8, 1);
        x.feed(0x20202068, 4);
        due("image", x.image(), 1);
        tell(x, "at");
        due("the tape was read", x.count(1), 3);
        x.feed(0x2020, 2);
        x.sheet(0, 0, 0);
        x.write(1, 0, 55);
        int[] other = {COAT, 9, 99, 99, 99, 0};
        for (int what = 0; what < 6; what++) x.change(0, what, other[what]);
        for (int what = 0; what < 3; what++) x.wake(0, what, 50);
        x.girl(9);
        x.stand(5, 0, 0);
        x.hold(0, -1);
        x.hold(4, 2);
        x.night(5);
        due("day", x.undo(), 2);
        int[] moon = {MOON, 1, 2, 3, 4, 1};
        for (int what = 0; what < 6; what++) due("deposit, what " + what, x.of(0, what), moon[what]);
        int[] girl = {6, 5, 7};
        for (int what = 0; what < 3; what++) due("girl, what " + what, x.ofGirl(0, what), girl[what]);
        int[] counts = {2, 2, 1, 2, 7, 2, 88, 2};
        for (int what = 0; what < 8; what++) due("count " + what, x.count(what), counts[what]);
        int[] list = {0, 0, 0, 0, 0, 403};
        for (int i = 0; i < 6; i++) due("place " + i, x.listed(i), list[i]);
        due("the first spot", x.as(0, COAT), 1);
        due("the last spot", x.as(9, COAT), 0);
        due("sheets aren't kept", x.judge(0), MISSING);
        due("sheets aren't kept", x.load(1), 1);
        due("sheets aren't kept", x.of(0, 2), 55);
        due("a new deposit is as at first", x.deposit(HAT, 3), 2);
        for (int what = 2; what < 6; what++) due("new, what " + what, x.of(2, what), what == 2 ? 20 : 0);
        due("a new girl is as at first", x.girl(8), 1);
        due("her dream", x.ofGirl(1, 0), 0);
        due("her met", x.ofGirl(1, 2), 0);
    }

    private void counts() {
        range("what", 0, 7, what -> new EveningCloak().count(what));
        EveningCloak x = room("coat;hat out", "girl;girl;girl");
        x.wake(0, 2, 9999);
        x.wake(2, 2, 9999);
        x.go(5);
        x.feed(0, 3);
        x.seed(LEAST);
        x.hold(0, 0);
        x.hold(5, 0);
        x.hold(9, 1);
        int[] counts = {5, 2, 3, 10, 19998, 3, LEAST, 3};
        for (int what = 0; what < 8; what++) due("count " + what, x.count(what), counts[what]);
    }

    private void findings() {
        EveningCloak x = eightCoats();
        due("none", x.status(-1), 0);
        x.hold(0, 0);
        int[] often = {1, 2, 3, 4, 0, 5, 6};
        for (int i = 0; i < often[0]; i++) x.light(16);
        for (int i = 0; i < often[1]; i++) x.deposit(COAT, 0);
        for (int i = 0; i < often[2]; i++) x.as(0, MOON);
        for (int i = 0; i < often[3]; i++) x.undo();
        for (int i = 0; i < often[5]; i++) x.load(0);
        for (int i = 0; i < often[6]; i++) x.sheet(0, 8, -1);
        for (int which = 0; which < 7; which++) due("status " + which, x.status(which), often[which]);
        due("all", x.status(-1), 21);
        x.image();
        x.light(16);
        due("one more", x.status(-1), 22);
        x.undo();
        due("not taken back", x.status(-1), 22);
        due("not taken back", x.status(0), 2);
        x.text();
        due("a fault is no finding", x.status(-1), 22);
        x.seed(BEYOND);
        x.seed(0);
        due("an answer that looks like one is none", x.status(-1), 22);
        onDay(99999, x).go(1);
        due("state", x.status(4), 1);
        EveningCloak y = new EveningCloak();
        for (int i = 0; i < 511; i++) y.go(61);
        due("511 of 511", y.status(0), 511);
    }
}
