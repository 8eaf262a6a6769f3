/** The Terms on texts, and promises 30 to 32. */
final class BoundsOfTexts extends Bounds {
    private static final String EIGHT_HATS = "hat;hat;hat;hat;hat;hat;hat;hat";
    private static final String SIX_GIRLS = "girl;girl;girl;girl;girl;girl";

    BoundsOfTexts() {
        holds("T", "A TEXT is read from THE TAPE (bytes, at most 120).", this::wholeTape);
        holds("T", "TOKENS, each as long as can be: WORDS (letters a to z)", this::words);
        holds("T", "NUMBERS (digits, 9999 at most)", this::numbers);
        holds("T", "SIGN ; ; blanks may stand between.", this::blanks);
        holds("T", "TEXT: ITEM { ; ITEM }.", this::items);
        holds("T", "ITEM: coat, evening, hat, dusk, moon, umbrella or topper, perhaps on and a NUMBER (a HANGER; 0 without)", this::hangers);
        holds("T", "perhaps stub and a NUMBER (0 to 99)", () -> {
            part("hat stub ", 0, 99, 2);
            EveningCloak x = room("hat", "hat");
            due("without", x.of(0, 2), 0);
            due("without, the second", x.of(1, 2), 10);
        });
        holds("T", "perhaps kept and a NUMBER (0 to 9999)", () -> part("hat kept ", 0, 9999, 3));
        holds("T", "perhaps worn and a NUMBER (0 to 99)", () -> part("hat worn ", 0, 99, 4));
        holds("T", "perhaps out: a new one", this::partsInTheirOrder);
        holds("T", "girl, perhaps hope and a NUMBER (1 to 99): a new one", this::girls);
        holds("T", "stand, three NUMBERS (a place of THE LIST, 0 to 5, a GIRL, 0 to 5, a HANGER).", this::stands);
        holds("T", "FAULT: the place (from 0) of the first byte of the first TOKEN that can't stand there", this::places);
        holds("T", "a NUMBER that isn't as told, another WORD, a byte that begins no TOKEN", this::strangers);
        holds("T", "the WORD of a 9th DEPOSIT, of a 7th GIRL: its own", this::tooMany);
        holds("T", "or how many bytes there are if it ends too early.", this::ends);
        feeds();
        texts();
    }

    private void fault(String text, int place) {
        due("'" + text + "'", tell(new EveningCloak(), text), -1 - place);
    }

    private void fine(String text, int items) {
        due("'" + text + "'", tell(new EveningCloak(), text), items);
    }

    private static String blanks(int n) {
        return " ".repeat(n);
    }

    private void wholeTape() {
        String hat = "hat" + blanks(116);
        fine(hat, 1);
        fine(hat + " ", 1);
        fault(hat + "9", 119);
        fine(blanks(117) + "hat", 1);
        fault(blanks(118) + "ha", 118);
        EveningCloak x = new EveningCloak();
        feed(x, hat + " ");
        due("a byte more", x.feed('s', 1), FULL);
        due("without it", x.text(), 1);
    }

    private void words() {
        fault("hathat", 0);
        fault("hata", 0);
        fault("hatz", 0);
        fault("zhat", 0);
        fault("ha", 0);
        fault("hat`", 3);
        fault("hat{", 3);
        fault("`", 0);
        fault("{", 0);
        fault("Hat", 0);
        fault("hAt", 0);
        fault("haT", 0);
        everyLetter("stand", " 0 0 0", 0);
        everyLetter("girl", "", 0);
        for (String word : WORDS) everyLetter(word, "", 0);
        everyLetter("hat on", " 1", 4);
        everyLetter("hat stub", " 1", 4);
        everyLetter("hat kept", " 1", 4);
        everyLetter("hat worn", " 1", 4);
        everyLetter("hat out", "", 4);
        everyLetter("girl hope", " 1", 5);
        fault("hat onto 1", 4);
        fault("haton 1", 0);
        fine("hat on1stub2kept3worn4out", 1);
        fine("stand0 0 0", 1);
    }

    /** With another letter in any place it is another word. */
    private void everyLetter(String text, String behind, int from) {
        fine(text + behind, 1);
        for (int i = from; i < text.length(); i++) fault(text.substring(0, i) + "z" + text.substring(i + 1) + behind, from);
        fault(text.substring(0, text.length() - 1) + behind, from);
        fault(text + "z" + behind, from);
    }

    private void numbers() {
        EveningCloak x = room("hat kept 9999");
        due("the most", x.of(0, 3), 9999);
        fault("hat kept 10000", 9);
        fault("hat kept 99990", 9);
        fault("hat kept 4294967301", 9);
        fault("hat kept 18446744073709551621", 9);
        fault("hat on 65536", 7);
        fault("hat on 4294967296", 7);
        fine("hat kept 0000000000009999", 1);
        fault("hat kept 0000000000010000", 9);
        fine("hat on 09", 1);
        due("all its digits", room("hat stub 90").of(0, 2), 90);
        fault("hat stub 1 2", 11);
        fault("hat stub 1/", 10);
        fault("hat stub 1:", 10);
        fault("hat stub /", 9);
        fault("hat stub :", 9);
        fault("stand 012 3", 6);
    }

    private void blanks() {
        fine("hat;hat", 2);
        fine("hat ; hat", 2);
        fine("  hat   ;   hat  ", 2);
        fine("hat  on   5", 1);
        fault("hat!", 3);
        fault("hat\u001f", 3);
        fault("hat:hat", 3);
        fault("hat<hat", 3);
        fault("ha t", 0);
        fault("hat on 1 5", 9);
    }

    private void items() {
        fault("", 0);
        fault(";", 0);
        fault(";hat", 0);
        fine("hat", 1);
        fault("hat;", 4);
        fault("hat;;hat", 4);
        fault("hat hat", 4);
        fault("hat girl", 4);
        fault("girl girl", 5);
        fine(EIGHT_HATS + ";" + SIX_GIRLS + ";stand0 0 0;stand0 0 0;stand0 0 0;stand0 0 0;stand0 0 0", 19);
    }

    private void hangers() {
        for (int kind = 0; kind < 7; kind++) {
            EveningCloak x = room(WORDS[kind]);
            due(WORDS[kind], x.of(0, 0), kind);
            due(WORDS[kind] + " without", x.of(0, 1), 0);
            fault(WORDS[kind] + "s", 0);
        }
        part("hat on ", 0, 15, 1);
    }

    /** A number of a deposit that a text may tell, at both its ends and on the other sides of them. */
    private void part(String before, int least, int most, int what) {
        due(before + least, room(before + least).of(0, what), least);
        due(before + most, room(before + most).of(0, what), most);
        fault(before + (most + 1), before.length());
        fault(before + "-1", before.length());
        fault(before + "x", before.length());
        fault(before, before.length());
    }

    private void partsInTheirOrder() {
        EveningCloak x = room("hat out", "hat on 1 stub 2 kept 3 worn 4 out", "hat");
        due("out", x.of(0, 5), 1);
        due("out behind all others", x.of(1, 5), 1);
        due("without", x.of(2, 5), 0);
        due("a new one each", x.count(1), 3);
        String[] parts = {"on 1", "stub 2", "kept 3", "worn 4", "out"};
        for (int i = 0; i < 5; i++) {
            fine("hat " + parts[i], 1);
            for (int k = 0; k <= i; k++) fault("hat " + parts[i] + " " + parts[k], 5 + parts[i].length());
            for (int k = i + 1; k < 5; k++) fine("hat " + parts[i] + " " + parts[k], 1);
        }
    }

    private void girls() {
        EveningCloak x = room("girl", "girl hope 1", "girl hope 99");
        due("without", x.ofGirl(0, 1), 50);
        due("the least", x.ofGirl(1, 1), 1);
        due("the most", x.ofGirl(2, 1), 99);
        due("a new one each", x.count(2), 3);
        fault("girl hope 0", 10);
        fault("girl hope 100", 10);
        fault("girl hope -1", 10);
        fault("girl hope", 9);
        fault("girl hope hope 5", 10);
        fault("girl hope 5 hope 5", 12);
        fault("girl 5", 5);
        fault("girl out", 5);
        fault("girls", 0);
    }

    private void stands() {
        EveningCloak x = room("stand 5 5 15;stand 0 0 0");
        due("the most of each", x.listed(5), 515);
        fault("stand 6 0 0", 6);
        fault("stand 0 6 0", 8);
        fault("stand 0 0 16", 10);
        fault("stand -1 0 0", 6);
        fault("stand", 5);
        fault("stand 0", 7);
        fault("stand 0 0", 9);
        fault("stand 0 0 0 0", 12);
        fault("stand 0 0 0 out", 12);
        fault("stand x", 6);
        fault("stand 0 x", 8);
        fault("stand 0 0 x", 10);
        x.stand(0, 3, 3);
        due("the least of each", tell(x, "stand 0 0 0"), 1);
        due("the least of each", x.listed(0), 0);
    }

    private void places() {
        fault("glove", 0);
        fault(" glove", 1);
        fault("  glove  ", 2);
        fault("hat on 16;glove", 7);
        fault("hat on 5 glove", 9);
        fault("hat;hat on  99;hat", 12);
        fault("hat;hat;moo;glove", 8);
        fault("hat" + blanks(116) + "x", 119);
    }

    private void strangers() {
        fault("5", 0);
        fault("hat 5", 4);
        fault("hat on 16", 7);
        fault("girl hope 0", 10);
        fault("glove", 0);
        fault("hut", 0);
        fault("hat or 5", 4);
        fault("on 5", 0);
        fault("out", 0);
        fault("hope 5", 0);
        fault("hat hope 5", 4);
        fault("girl on 5", 5);
        fault("#", 0);
        fault("hat#", 3);
        fault("hat on #5", 7);
        fault("\u0000", 0);
        fault("hat\u00ff", 3);
        fault("hat \u00e8", 4);
    }

    private void tooMany() {
        due("eight hats", tell(new EveningCloak(), EIGHT_HATS), 8);
        fault(EIGHT_HATS + ";hat", 32);
        fault(EIGHT_HATS + "; hat on 16", 33);
        due("six girls", tell(new EveningCloak(), SIX_GIRLS), 6);
        fault(SIX_GIRLS + ";girl", 30);
        fault(SIX_GIRLS + ";girl hope 0", 30);
        EveningCloak x = room("hat;hat;hat;hat;hat;hat;hat", "girl;girl;girl;girl;girl");
        due("the ninth", tell(x, "hat;moon"), -5);
        due("the eighth", tell(x, "moon"), 1);
        for (int kind = 0; kind < 7; kind++) due("a ninth " + WORDS[kind], tell(x, " " + WORDS[kind]), -2);
        due("the seventh", tell(x, "girl;girl"), -6);
        due("the sixth", tell(x, "girl"), 1);
        due("the seventh", tell(x, "girl"), -1);
        due("a stand is none of them", tell(x, "stand 0 0 0"), 1);
    }

    private void ends() {
        fault("", 0);
        fault(" ", 1);
        fault(blanks(120), 120);
        fault("hat on", 6);
        fault("hat on ", 7);
        fault("hat;", 4);
        fault("hat;  ", 6);
        fault("girl hope", 9);
        fault("stand 0 0  ", 11);
        fault("hat" + blanks(116) + ";", 120);
    }

    private void feeds() {
        holds("30", "THE TAPE gets the n lowest bytes of a number behind it, the highest of these first", () -> {
            EveningCloak x = new EveningCloak();
            x.feed(0x41416861, 2);
            x.feed(0xffffff74, 1);
            due("'ha' and 't'", x.text(), 1);
            due("a hat", x.of(0, 0), HAT);
            x.feed(0x636f6174, 4);
            due("'coat'", x.text(), 1);
            x.feed(0x78686174, 3);
            due("'hat'", x.text(), 1);
            x.feed(-1, 4);
            due("four bytes of 255", x.text(), -1);
            x.feed(0xe8, 1);
            x.feed(0x6174, 2);
            due("a byte above 127 is no letter", x.text(), -1);
        });
        holds("30", "(n 1 to 4): how many it has. BEYOND: n.", () -> {
            range("n", 1, 4, n -> new EveningCloak().feed(0, n));
            EveningCloak x = new EveningCloak();
            int has = 0;
            for (int n = 1; n <= 4; n++) due("with " + n + " more", x.feed(0, n), has += n);
        });
        holds("30", "FULL.", () -> {
            for (int n = 1; n <= 4; n++) {
                EveningCloak x = new EveningCloak();
                feed(x, blanks(121 - n));
                due("one too many by " + n, x.feed(0, n), FULL);
                due("none of them came", x.count(5), 121 - n);
                if (n > 1) due("just full by " + (n - 1), x.feed(0, n - 1), 120);
                due("full", x.feed(0, 1), FULL);
            }
        });
        holds("31", "THE TAPE is empty: how many it had.", () -> {
            EveningCloak x = new EveningCloak();
            due("none", x.wipe(), 0);
            feed(x, blanks(120));
            due("all", x.wipe(), 120);
            due("empty", x.count(5), 0);
            due("from its begin again", tell(x, "hat"), 1);
        });
    }

    private void texts() {
        holds("32", "THE TAPE is a TEXT, and empty then; all that it tells is so, item by item: how many ITEMS.", () -> {
            EveningCloak x = new EveningCloak();
            due("one", tell(x, "stand 0 1 1"), 1);
            due("empty then", x.count(5), 0);
            due("four", tell(x, "stand 0 2 2;hat;stand 0 3 3;coat on 7"), 4);
            due("the later stand", x.listed(0), 303);
            due("the first of them", x.of(0, 0), HAT);
            due("the second of them", x.of(1, 1), 7);
        });
        holds("32", "With a FAULT: -1 less the FAULT (nothing changes but that THE TAPE is empty; no finding).", () -> {
            EveningCloak x = room("hat;girl;stand 0 0 7");
            x.hold(3, 0);
            due("at the first byte", tell(x, "#"), -1);
            due("at the end", tell(x, "coat;girl;stand 0 5 5;"), -23);
            due("in the last item", tell(x, "coat on 5;girl hope 9;stand 0 5 16"), -33);
            due("the tape", x.count(5), 0);
            due("deposits", x.count(1), 1);
            due("girls", x.count(2), 1);
            due("the list", x.listed(0), 7);
            due("spots", x.count(7), 1);
            due("findings", x.status(-1), 0);
            due("a text behind them", tell(x, "moon"), 1);
            due("is the next one", x.of(1, 0), MOON);
        });
    }
}
