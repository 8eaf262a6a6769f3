import java.util.ArrayList;
import java.util.List;
import java.util.function.Consumer;
import java.util.function.ToLongFunction;

/** The Terms on findings: their numbers, their order, that nothing changes by them; and on sets and ties. */
final class BoundsOfFindings extends Bounds {
    /** A call that is refused in busy(), when it has been made ready for it. */
    private static final class Refused {
        final String call;
        final int finding;
        final Consumer<EveningCloak> ready;
        final ToLongFunction<EveningCloak> act;

        Refused(String call, int finding, Consumer<EveningCloak> ready, ToLongFunction<EveningCloak> act) {
            this.call = call;
            this.finding = finding;
            this.ready = ready;
            this.act = act;
        }
    }

    private final List<Refused> refusals = new ArrayList<>();

    BoundsOfFindings() {
        holds("T", "FINDINGS are answers below -1000000: LOW is -1000001; LOW BEYOND, LOW - 1 FULL, LOW - 2 KIND, LOW - 3 NONE, "
            + "LOW - 4 STATE, LOW - 5 MISSING, LOW - 6 SIZE (in longs, too).", this::numbers);
        holds("T", "Each act tells its findings in the order in which they are asked (that of its words)", this::order);
        holds("T", "one that answers a finding changes nothing but status()", this::nothingChanges);
        holds("T", "Quotients are cut.", this::cut);
        holds("T", "Sets are told as bits", this::sets);
        holds("T", "of several that would do the least number counts, where nothing else is told", this::ties);
        beyond();
        others();
    }

    private void numbers() {
        EveningCloak x = busy();
        due("BEYOND", x.light(16), -1000001);
        due("FULL", x.deposit(COAT, 0), -1000002);
        due("KIND", x.as(0, HAT), -1000003);
        due("NONE", x.call(98), -1000004);
        due("MISSING", x.judge(3), -1000006);
        due("SIZE", x.sheet(0, 8, -1), -1000007);
        due("BEYOND as a long", x.odds(16, 0), -1000001L);
        due("STATE", onDay(99999, x).go(1), -1000005);
        due("no finding just above", seeded(-1000001).status(-1), 0);
    }

    /** An answer may look like a finding and be none. */
    private static EveningCloak seeded(int z) {
        EveningCloak x = new EveningCloak();
        x.seed(z);
        x.seed(z);
        x.count(6);
        return x;
    }

    private void order() {
        EveningCloak x = busy();
        EveningCloak atTheEnd = onDay(99999, busy());
        due("deposit, full", x.deposit(7, 0), BEYOND);
        due("deposit, full", x.deposit(0, 16), BEYOND);
        due("girl, full", x.girl(0), BEYOND);
        due("call, none", x.call(100), BEYOND);
        due("go, on the last day", atTheEnd.go(61), BEYOND);
        due("go, on the last day", atTheEnd.go(0), BEYOND);
        due("meets, none", x.meets(0, 10000), BEYOND);
        due("threadbare, none", x.threadbare(2, 100), BEYOND);
        due("earns, none", x.earns(100000), BEYOND);
        due("hopeFor, none", x.hopeFor(5, 41), BEYOND);
        due("giveOut, none", ready(x).giveOut(21), BEYOND);
        due("fits, no sheet, no deposit", x.fits(4, 8), BEYOND);
        due("fits, missing, no deposit", x.fits(3, 8), MISSING);
        due("kinds, missing, no deposit", x.kinds(3, -1), MISSING);
        due("night, on the last day", atTheEnd.night(21), BEYOND);
        due("night, on the last day", atTheEnd.night(0), BEYOND);
        x.hold(1, -1);
        due("as, no such kind, holds nothing", x.as(1, 7), BEYOND);
        due("as, no such kind, holds nothing", x.as(1, -1), BEYOND);
        due("sheet, other bits, below 0", x.sheet(0, 7, -1), BEYOND);
        due("sheet, no such sheet, below 0", x.sheet(4, 8, -1), BEYOND);
        due("write, missing, no such number", x.write(3, 40, 0), MISSING);
        due("copy, no such sheet, missing", x.copy(4, 0, 3, 0, 1), BEYOND);
        due("copy, missing, no such sheet", x.copy(3, 0, 4, 0, 1), BEYOND);
        due("copy, missing, from below 0", x.copy(0, -1, 3, 0, 1), MISSING);
        due("copy, other bits, from below 0", x.copy(0, -1, 1, 0, 1), KIND);
        fillTape(x);
        due("feed, full", x.feed(0, 5), BEYOND);
    }

    private void nothingChanges() {
        for (Refused r : refusals) {
            EveningCloak refused = busy();
            EveningCloak other = busy();
            r.ready.accept(refused);
            r.ready.accept(other);
            due(r.call, r.act.applyAsLong(refused), r.finding);
            for (int which = -1; which < 7; which++) {
                int more = which == -1 || which == BEYOND - r.finding ? 1 : 0;
                due("behind " + r.call + " status(" + which + ")", refused.status(which), other.status(which) + more);
            }
            due("behind " + r.call + " the same room", look(refused).equals(look(other)) ? 1 : 0, 1);
        }
    }

    private void cut() {
        EveningCloak x = room("evening kept 19", "dusk kept 19", "moon worn 39");
        due("a tenth of 19", x.of(0, 6), 21);
        due("half of 21", x.of(1, 6), 10);
        due("39 by 20", x.of(2, 7), 6);
    }

    private void sets() {
        EveningCloak x = eightCoats();
        due("none out", x.now(3), 0);
        x.change(0, 5, 1);
        x.change(7, 5, 1);
        due("the first and the last out", x.now(3), 129);
        due("dark everywhere", x.now(4), 65535);
        x.change(1, 0, TOPPER);
        x.change(2, 0, TOPPER);
        x.change(2, 1, 15);
        due("light at both ends", x.now(4), 65535 - 1 - 32768);
        x.sheet(0, 8, 1);
        due("dark at hanger 0 with the topper anywhere else", x.fits(0, 1), 65534);
        due("dark at hanger 0", x.kinds(0, 1), 1 << COAT | 1 << HAT | 1 << UMBRELLA);
        EveningCloak y = room("coat", "topper", "topper", "girl hope 3", "stand 0 0 0");
        due("the second and the third", y.giveOut(1), 6);
    }

    private void ties() {
        due("lightest", room("topper on 9", "topper on 2", "topper on 15").now(5), 2);
        due("called", room("hat stub 5", "hat stub 5").call(5), 0);
        EveningCloak x = room("topper on 9", "girl hope 1", "stand 0 0 4");
        due("hung", x.hangFor(0, 0), 0);
        due("stood", x.standFor(0, 0), 0);
        due("of a kind", x.kindFor(0, 0), COAT);
        EveningCloak y = room("evening on 9", "girl hope 1", "stand 0 0 9");
        due("hung where it reaches", y.hangFor(0, 1), 6);
        due("stood where it reaches", y.standFor(0, 1), 6);
        due("of the least kind that shines", y.kindFor(0, 1), EVENING);
        due("given out", room("topper", "topper", "girl hope 6", "stand 0 0 0").giveOut(1), 1);
    }

    /** A room with something in each place that a call could change: in every spot, so that look() meets no finding early. */
    private static EveningCloak busy() {
        EveningCloak x = room("coat on 1;evening on 2 kept 5;hat on 3;dusk on 4;moon on 5 worn 7",
            "umbrella on 6;topper on 7;coat on 8 out", "girl;girl hope 9;girl;girl;girl;girl hope 99",
            "stand 0 1 2;stand 1 2 3;stand 5 4 7");
        for (int spot = 0; spot < 10; spot++) x.hold(spot, spot % 4);
        x.hold(0, 4);
        x.seed(77);
        x.image();
        x.go(1);
        x.seed(78);
        x.wake(2, 0, 30);
        x.wake(3, 2, 12);
        x.change(0, 2, 55);
        x.hold(8, 7);
        x.sheet(0, 8, 8);
        x.write(0, 1, 31);
        x.write(0, 7, 37);
        x.sheet(1, 16, 4);
        x.write(1, 2, 42);
        x.sheet(2, 32, 0);
        feed(x, "stand 3 4 5");
        return x;
    }

    /** All that can be seen of an object made by busy(), but for status(). */
    private static List<Long> look(EveningCloak x) {
        List<Long> seen = new ArrayList<>();
        lookAround(x, seen);
        seen.add((long) x.text());
        seen.add((long) x.listed(3));
        seen.add((long) x.undo());
        lookAround(x, seen);
        for (int s = 0; s < 4; s++) {
            seen.add((long) x.load(s));
            for (int d = 0; d < x.count(1); d++) seen.add((long) x.of(d, 2));
            // Of how many bits it is shows in what is left of 300.
            seen.add((long) x.write(s, 0, 300));
            seen.add((long) x.load(s));
            seen.add((long) x.of(0, 2));
        }
        return seen;
    }

    private static void lookAround(EveningCloak x, List<Long> seen) {
        for (int i = 0; i < 6; i++) seen.add((long) x.listed(i));
        for (int i = 0; i < 8; i++) seen.add((long) x.count(i));
        for (int d = 0; d < x.count(1); d++) for (int i = 0; i < 6; i++) seen.add((long) x.of(d, i));
        for (int g = 0; g < x.count(2); g++) for (int i = 0; i < 3; i++) seen.add((long) x.ofGirl(g, i));
        for (int spot = 0; spot < 10; spot++) seen.add((long) x.as(spot, COAT));
    }

    private static void fillTape(EveningCloak x) {
        while (x.count(5) < 116) x.feed(0x20202020, 4);
        while (x.count(5) < 119) x.feed(0x20, 1);
    }

    /** Who stands today dreams of more than she hopes for: she meets him without any light. */
    private static EveningCloak ready(EveningCloak x) {
        x.wake(2, 0, 99);
        return x;
    }

    private void refused(String call, int finding, ToLongFunction<EveningCloak> act) {
        refusals.add(new Refused(call, finding, x -> { }, act));
    }

    private void refused(String call, int finding, Consumer<EveningCloak> ready, ToLongFunction<EveningCloak> act) {
        refusals.add(new Refused(call, finding, ready, act));
    }

    private void beyond() {
        refused("stand(6, 0, 0)", BEYOND, x -> x.stand(6, 0, 0));
        refused("stand(0, 6, 0)", BEYOND, x -> x.stand(0, 6, 0));
        refused("stand(0, 0, 16)", BEYOND, x -> x.stand(0, 0, 16));
        refused("listed(6)", BEYOND, x -> x.listed(6));
        refused("deposit(7, 0)", BEYOND, x -> x.deposit(7, 0));
        refused("girl(100)", BEYOND, x -> x.girl(100));
        refused("of(8, 0)", BEYOND, x -> x.of(8, 0));
        refused("change(0, 1, 16)", BEYOND, x -> x.change(0, 1, 16));
        refused("change(0, 4, 100)", BEYOND, x -> x.change(0, 4, 100));
        refused("change(0, 6, 0)", BEYOND, x -> x.change(0, 6, 0));
        refused("ofGirl(6, 0)", BEYOND, x -> x.ofGirl(6, 0));
        refused("wake(0, 1, 0)", BEYOND, x -> x.wake(0, 1, 0));
        refused("light(16)", BEYOND, x -> x.light(16));
        refused("call(100)", BEYOND, x -> x.call(100));
        refused("go(61)", BEYOND, x -> x.go(61));
        refused("now(8)", BEYOND, x -> x.now(8));
        refused("ahead(0, 3, 101)", BEYOND, x -> x.ahead(0, 3, 101));
        refused("later(0, 0, 101)", BEYOND, x -> x.later(0, 0, 101));
        refused("dawn(0, 101)", BEYOND, x -> x.dawn(0, 101));
        refused("meets(6, 0)", BEYOND, x -> x.meets(6, 0));
        refused("threadbare(8, 0)", BEYOND, x -> x.threadbare(8, 0));
        refused("earns(100000)", BEYOND, x -> x.earns(100000));
        refused("hangFor(0, 41)", BEYOND, x -> x.hangFor(0, 41));
        refused("standFor(0, 41)", BEYOND, x -> x.standFor(0, 41));
        refused("kindFor(0, 41)", BEYOND, x -> x.kindFor(0, 41));
        refused("hopeFor(0, 41)", BEYOND, x -> x.hopeFor(0, 41));
        refused("giveOut(21)", BEYOND, x -> x.giveOut(21));
        refused("fits(4, 0)", BEYOND, x -> x.fits(4, 0));
        refused("fits(0, 8)", BEYOND, x -> x.fits(0, 8));
        refused("kinds(4, 0)", BEYOND, x -> x.kinds(4, 0));
        refused("kinds(0, 8)", BEYOND, x -> x.kinds(0, 8));
        refused("night(21)", BEYOND, x -> x.night(21));
        refused("odds(16, 0)", BEYOND, x -> x.odds(16, 0));
        refused("feed(0, 5)", BEYOND, x -> x.feed(0, 5));
        refused("hold(0, 8)", BEYOND, x -> x.hold(0, 8));
        refused("as(10, 0)", BEYOND, x -> x.as(10, 0));
        refused("sheet(0, 64, 1)", BEYOND, x -> x.sheet(0, 64, 1));
        refused("sheet(0, 16, 41)", BEYOND, x -> x.sheet(0, 16, 41));
        refused("write(0, 8, 5)", BEYOND, x -> x.write(0, 8, 5));
        refused("copy(0, 0, 0, 1, 8)", BEYOND, x -> x.copy(0, 0, 0, 1, 8));
        refused("load(4)", BEYOND, x -> x.load(4));
        refused("judge(4)", BEYOND, x -> x.judge(4));
        refused("count(8)", BEYOND, x -> x.count(8));
        refused("status(7)", BEYOND, x -> x.status(7));
    }

    private void others() {
        refused("deposit(0, 0)", FULL, x -> x.deposit(0, 0));
        refused("girl(1)", FULL, x -> x.girl(1));
        refused("feed(0, 2)", FULL, BoundsOfFindings::fillTape, x -> x.feed(0, 2));
        refused("as(0, 2)", KIND, x -> x.as(0, HAT));
        refused("copy(0, 0, 1, 0, 1)", KIND, x -> x.copy(0, 0, 1, 0, 1));
        refused("call(98)", NONE, x -> x.call(98));
        refused("meets(5, 1)", NONE, x -> x.meets(5, 1));
        refused("threadbare(2, 99)", NONE, x -> x.threadbare(2, 99));
        refused("earns(99999)", NONE, x -> x.earns(99999));
        refused("hopeFor(5, 40)", NONE, x -> x.hopeFor(5, 40));
        refused("giveOut(1)", NONE, BoundsOfFindings::ready, x -> x.giveOut(1));
        refused("undo()", NONE, x -> x.tear(), x -> x.undo());
        refused("go(2)", STATE, x -> onDay(99998, x), x -> x.go(2));
        refused("night(2)", STATE, x -> onDay(99998, x), x -> x.night(2));
        refused("fits(3, 0)", MISSING, x -> x.fits(3, 0));
        refused("kinds(3, 0)", MISSING, x -> x.kinds(3, 0));
        refused("as(1, 0)", MISSING, x -> x.hold(1, -1), x -> x.as(1, 0));
        refused("write(3, 0, 5)", MISSING, x -> x.write(3, 0, 5));
        refused("copy(0, 0, 3, 0, 1)", MISSING, x -> x.copy(0, 0, 3, 0, 1));
        refused("load(3)", MISSING, x -> x.load(3));
        refused("judge(3)", MISSING, x -> x.judge(3));
        refused("sheet(0, 0, -1)", SIZE, x -> x.sheet(0, 0, -1));
        refused("sheet(3, 8, -1)", SIZE, x -> x.sheet(3, 8, -1));
    }
}
