import java.util.Arrays;

/** A cloakroom of the Palace: deposits that shine, girls that dream, days that go by. */
public final class EveningCloak {
    private static final int LOW = -1000001;
    private static final int BEYOND = 0;
    private static final int FULL = 1;
    private static final int KIND = 2;
    private static final int NONE = 3;
    private static final int STATE = 4;
    private static final int MISSING = 5;
    private static final int SIZE = 6;
    private static final int FINDINGS = 7;

    private static final int HANGERS = 16;
    private static final int STANDS = 6;
    private static final int MOST_DEPOSITS = 8;
    private static final int MOST_GIRLS = 6;
    private static final int SPOTS = 10;
    private static final int SHEETS = 4;
    private static final int MOST_NUMBERS = 40;
    private static final int MOST_BYTES = 120;
    private static final int MOST_DAY = 99999;
    private static final int MOST_FEES = 99999;
    private static final int MOST_MET = 9999;
    private static final int MOST_KEPT = 9999;
    private static final int MOST_WORN = 99;
    private static final int MOST_STUB = 99;
    private static final int MOST_DREAM = 99;
    private static final int MOST_HOPE = 99;
    private static final int FIRST_HOPE = 50;
    private static final int MOST_GO = 60;
    private static final int MOST_NIGHTS = 20;
    private static final int MOST_AHEAD = 100;
    private static final int MOST_AWAITED = 200;
    private static final int MOST_PLANNED = 40;
    private static final int MOST_GIVEN = 20;
    private static final int MOST_ASKED = 8;
    private static final int MOST_DRAWN = 15;
    private static final int NOTHING = -1;
    private static final int ANY = -1;

    private static final int COAT = 0;
    private static final int EVENING = 1;
    private static final int HAT = 2;
    private static final int DUSK = 3;
    private static final int MOON = 4;
    private static final int UMBRELLA = 5;
    private static final int TOPPER = 6;
    private static final int KINDS = 7;
    /** Of each kind the one that it is under; a coat is under none. */
    private static final int[] ABOVE = {NOTHING, COAT, COAT, EVENING, DUSK, COAT, HAT};

    private static final int COAT_COSTS = 2;
    private static final int HAT_COSTS = COAT_COSTS / 2;
    private static final int TOPPER_COSTS = 3 * HAT_COSTS;
    private static final int UMBRELLA_COSTS = COAT_COSTS - 1;
    private static final int COAT_WEARS = 1;
    private static final int EVENING_WEARS = 0;
    private static final int HAT_WEARS = COAT_WEARS - 1;
    private static final int EVENING_REACHES = 3;
    private static final int DUSK_REACHES = EVENING_REACHES + 2;

    private static final int OF_KIND = 0;
    private static final int OF_HANGER = 1;
    private static final int OF_STUB = 2;
    private static final int OF_KEPT = 3;
    private static final int OF_WORN = 4;
    private static final int OF_OUT = 5;
    private static final int OF_SHINES = 6;
    private static final int OF_REACHES = 7;
    private static final int OF_WEARS = 8;
    private static final int OF_COSTS = 9;
    /** The greatest that change() takes, by what is changed. */
    private static final int[] MOST_OF = {KINDS - 1, HANGERS - 1, MOST_STUB, MOST_KEPT, MOST_WORN, 1};

    private static final int GIRL_DREAM = 0;
    private static final int GIRL_HOPE = 1;
    private static final int GIRL_MET = 2;
    /** What wake() takes, by what is changed. */
    private static final int[] LEAST_OF_GIRL = {0, 1, 0};
    private static final int[] MOST_OF_GIRL = {MOST_DREAM, MOST_HOPE, MOST_MET};

    private static final int GAUGE_MET = 0;
    private static final int GAUGE_WORN = 1;
    private static final int GAUGE_FEES = 2;

    private static final int VARY_HANGER = 0;
    private static final int VARY_STAND = 1;
    private static final int VARY_KIND = 2;

    private final Room room = new Room();
    /** What will be is tried here, so that no call has to make a room of its own. */
    private final Room trial = new Room();
    private final Room latest = new Room();
    private boolean latestKept;
    private final Reader reader = new Reader();
    private final Sheet[] sheets = new Sheet[SHEETS];
    private final int[] found = new int[FINDINGS];

    public EveningCloak() {
        for (int s = 0; s < SHEETS; s++) {
            sheets[s] = new Sheet();
        }
    }

    // ---- cloakroom

    public int stand(int i, int girl, int hanger) {
        if (!within(i, 0, STANDS - 1) || !within(girl, 0, MOST_GIRLS - 1) || !isHanger(hanger)) {
            return finding(BEYOND);
        }
        int was = room.list[i];
        room.list[i] = standOf(girl, hanger);
        return was;
    }

    public int listed(int i) {
        return within(i, 0, STANDS - 1) ? room.list[i] : finding(BEYOND);
    }

    public int deposit(int kind, int hanger) {
        if (!isKind(kind) || !isHanger(hanger)) {
            return finding(BEYOND);
        }
        if (room.deposits >= MOST_DEPOSITS) {
            return finding(FULL);
        }
        return room.addDeposit(kind, hanger);
    }

    public int girl(int hope) {
        if (!within(hope, 1, MOST_HOPE)) {
            return finding(BEYOND);
        }
        if (room.girls >= MOST_GIRLS) {
            return finding(FULL);
        }
        return room.addGirl(hope);
    }

    public int of(int deposit, int what) {
        if (!room.hasDeposit(deposit) || !within(what, OF_KIND, OF_COSTS)) {
            return finding(BEYOND);
        }
        return room.tellOf(deposit, what);
    }

    public int change(int deposit, int what, int v) {
        if (!room.hasDeposit(deposit) || !within(what, OF_KIND, OF_OUT) || !within(v, 0, MOST_OF[what])) {
            return finding(BEYOND);
        }
        int[] row = room.depositRow(what);
        int was = row[deposit];
        row[deposit] = v;
        return was;
    }

    public int ofGirl(int girl, int what) {
        if (!room.hasGirl(girl) || !within(what, GIRL_DREAM, GIRL_MET)) {
            return finding(BEYOND);
        }
        return room.girlRow(what)[girl];
    }

    public int wake(int girl, int what, int v) {
        if (!room.hasGirl(girl) || !within(what, GIRL_DREAM, GIRL_MET)
                || !within(v, LEAST_OF_GIRL[what], MOST_OF_GIRL[what])) {
            return finding(BEYOND);
        }
        int[] row = room.girlRow(what);
        int was = row[girl];
        row[girl] = v;
        return was;
    }

    public int light(int hanger) {
        return isHanger(hanger) ? room.lightAt(hanger) : finding(BEYOND);
    }

    public int call(int stub) {
        if (!within(stub, 0, MOST_STUB)) {
            return finding(BEYOND);
        }
        for (int d = 0; d < room.deposits; d++) {
            if (room.stub[d] == stub && room.out[d] == 0) {
                room.out[d] = 1;
                return d;
            }
        }
        return finding(NONE);
    }

    // ---- days

    public int go(int n) {
        if (!within(n, 1, MOST_GO)) {
            return finding(BEYOND);
        }
        if (room.day + n > MOST_DAY) {
            return finding(STATE);
        }
        room.passDays(n);
        return room.fees;
    }

    public int now(int what) {
        switch (what) {
            case 0: return room.day;
            case 1: return room.fees;
            case 2: return room.metTogether();
            case 3: return room.outSet();
            case 4: return room.darkHangers();
            case 5: return room.lightestHanger();
            case 6: return room.costTogether();
            case 7: return room.dreamTogether();
            default: return finding(BEYOND);
        }
    }

    // ---- what will be (nothing changes)

    public int ahead(int deposit, int what, int n) {
        boolean told = what == OF_KEPT || what == OF_WORN || what == OF_SHINES || what == OF_REACHES;
        if (!room.hasDeposit(deposit) || !told || !within(n, 0, MOST_AHEAD)) {
            return finding(BEYOND);
        }
        tryDays(n);
        return trial.tellOf(deposit, what);
    }

    public int later(int girl, int what, int n) {
        boolean told = what == GIRL_DREAM || what == GIRL_MET;
        if (!room.hasGirl(girl) || !told || !within(n, 0, MOST_AHEAD)) {
            return finding(BEYOND);
        }
        tryDays(n);
        return trial.girlRow(what)[girl];
    }

    public int dawn(int hanger, int n) {
        if (!isHanger(hanger) || !within(n, 0, MOST_AHEAD)) {
            return finding(BEYOND);
        }
        tryDays(n);
        return trial.lightAt(hanger);
    }

    public int meets(int girl, int v) {
        if (!room.hasGirl(girl) || !within(v, 0, MOST_MET)) {
            return finding(BEYOND);
        }
        return fewestDays(GAUGE_MET, girl, v);
    }

    public int threadbare(int deposit, int v) {
        if (!room.hasDeposit(deposit) || !within(v, 0, MOST_WORN)) {
            return finding(BEYOND);
        }
        return fewestDays(GAUGE_WORN, deposit, v);
    }

    public int earns(int v) {
        return within(v, 0, MOST_FEES) ? fewestDays(GAUGE_FEES, 0, v) : finding(BEYOND);
    }

    // ---- where to hang, where to stand

    public int hangFor(int deposit, int n) {
        if (!room.hasDeposit(deposit) || !within(n, 0, MOST_PLANNED)) {
            return finding(BEYOND);
        }
        return bestFor(VARY_HANGER, deposit, n);
    }

    public int standFor(int i, int n) {
        if (!within(i, 0, STANDS - 1) || !within(n, 0, MOST_PLANNED)) {
            return finding(BEYOND);
        }
        return bestFor(VARY_STAND, i, n);
    }

    public int kindFor(int deposit, int n) {
        if (!room.hasDeposit(deposit) || !within(n, 0, MOST_PLANNED)) {
            return finding(BEYOND);
        }
        return bestFor(VARY_KIND, deposit, n);
    }

    public int hopeFor(int girl, int n) {
        if (!room.hasGirl(girl) || !within(n, 0, MOST_PLANNED)) {
            return finding(BEYOND);
        }
        int hope = dreamOfLastStand(girl, n);
        return hope == 0 || room.met[girl] >= MOST_MET ? finding(NONE) : hope;
    }

    public int giveOut(int n) {
        if (!within(n, 0, MOST_GIVEN)) {
            return finding(BEYOND);
        }
        int hanging = (1 << room.deposits) - 1 & ~room.outSet();
        // What is out can only make it darker, so no set does if all of them together do not.
        if (!nobodyMeets(hanging, n)) {
            return finding(NONE);
        }
        for (int size = 0; size <= room.deposits; size++) {
            for (int set = 0; set <= hanging; set++) {
                if (Integer.bitCount(set) == size && (set & ~hanging) == 0 && nobodyMeets(set, n)) {
                    return set;
                }
            }
        }
        return finding(NONE);
    }

    // ---- told light

    public int fits(int s, int deposit) {
        int refused = refusedAsTold(s, deposit);
        return refused != NOTHING ? finding(refused) : setAsTold(VARY_HANGER, sheets[s], deposit);
    }

    public int kinds(int s, int deposit) {
        int refused = refusedAsTold(s, deposit);
        return refused != NOTHING ? finding(refused) : setAsTold(VARY_KIND, sheets[s], deposit);
    }

    // ---- nights

    public int night(int n) {
        if (!within(n, 1, MOST_NIGHTS)) {
            return finding(BEYOND);
        }
        if (room.day + n > MOST_DAY) {
            return finding(STATE);
        }
        for (int i = 0; i < n; i++) {
            int girl = room.draw() % MOST_GIRLS;
            int hanger = room.draw() % HANGERS;
            room.list[room.day % STANDS] = standOf(girl, hanger);
            room.passDays(1);
        }
        return room.metTogether();
    }

    public long odds(int n, int what) {
        if (!within(n, 0, MOST_DRAWN) || !within(what, 0, 1)) {
            return finding(BEYOND);
        }
        int above = HANGERS - Integer.bitCount(room.darkHangers());
        int below = HANGERS;
        // 16 has no factor but 2, so halving is all that there is to cut.
        for (int halvings = 0; halvings < 4 && above % 2 == 0; halvings++) {
            above /= 2;
            below /= 2;
        }
        return power(what == 0 ? above : below, n);
    }

    public int seed(int v) {
        int was = room.z;
        room.z = v;
        return was;
    }

    // ---- texts

    public int feed(int bytes, int n) {
        if (!within(n, 1, 4)) {
            return finding(BEYOND);
        }
        if (reader.count + n > MOST_BYTES) {
            return finding(FULL);
        }
        for (int i = n - 1; i >= 0; i--) {
            reader.append(bytes >>> 8 * i & 255);
        }
        return reader.count;
    }

    public int wipe() {
        int had = reader.count;
        reader.count = 0;
        return had;
    }

    public int text() {
        // Read into the trial room: with a fault all that was told before it must be forgotten.
        trial.become(room);
        int items = reader.readText(trial);
        if (items > 0) {
            room.become(trial);
        }
        reader.count = 0;
        return items;
    }

    // ---- spots, sheets

    public int hold(int spot, int deposit) {
        if (!isSpot(spot) || deposit != NOTHING && !room.hasDeposit(deposit)) {
            return finding(BEYOND);
        }
        room.spots[spot] = deposit;
        return 1;
    }

    public int as(int spot, int kind) {
        if (!isSpot(spot) || !isKind(kind)) {
            return finding(BEYOND);
        }
        int deposit = room.spots[spot];
        if (!room.hasDeposit(deposit)) {
            return finding(MISSING);
        }
        return isUnder(room.kind[deposit], kind) ? deposit : finding(KIND);
    }

    public int sheet(int s, int bits, int n) {
        if (!isSheet(s) || bits != 0 && bits != 8 && bits != 16 && bits != 32) {
            return finding(BEYOND);
        }
        if (n < 0) {
            return finding(SIZE);
        }
        if (n > MOST_NUMBERS) {
            return finding(BEYOND);
        }
        sheets[s].begin(bits, bits == 0 ? 0 : n);
        return sheets[s].size;
    }

    public int write(int s, int i, int v) {
        if (!isSheet(s)) {
            return finding(BEYOND);
        }
        if (sheets[s].isMissing()) {
            return finding(MISSING);
        }
        if (!within(i, 0, sheets[s].size - 1)) {
            return finding(BEYOND);
        }
        sheets[s].put(i, v);
        return 1;
    }

    public int copy(int s, int from, int t, int to, int n) {
        if (!isSheet(s) || !isSheet(t)) {
            return finding(BEYOND);
        }
        if (sheets[s].isMissing() || sheets[t].isMissing()) {
            return finding(MISSING);
        }
        if (sheets[s].bits != sheets[t].bits) {
            return finding(KIND);
        }
        if (!sheets[s].hasRun(from, n) || !sheets[t].hasRun(to, n)) {
            return finding(BEYOND);
        }
        System.arraycopy(sheets[s].numbers, from, sheets[t].numbers, to, n);
        return n;
    }

    public int load(int s) {
        if (!isSheet(s)) {
            return finding(BEYOND);
        }
        if (sheets[s].isMissing()) {
            return finding(MISSING);
        }
        int most = Math.min(sheets[s].size, room.deposits);
        for (int i = 0; i < most; i++) {
            int stub = sheets[s].numbers[i];
            if (!within(stub, 0, MOST_STUB)) {
                return i;
            }
            room.stub[i] = stub;
        }
        return most;
    }

    public int judge(int s) {
        if (!isSheet(s)) {
            return finding(BEYOND);
        }
        if (sheets[s].isMissing()) {
            return finding(MISSING);
        }
        for (int i = 0; i < sheets[s].size; i++) {
            if (!room.hasDeposit(i) || room.worn[i] != sheets[s].numbers[i]) {
                return 1 + i;
            }
        }
        return 0;
    }

    // ---- images

    public int image() {
        latest.become(room);
        latestKept = true;
        return 1;
    }

    public int undo() {
        if (!latestKept) {
            return finding(NONE);
        }
        room.become(latest);
        return room.day;
    }

    public int tear() {
        int was = latestKept ? 1 : 0;
        latestKept = false;
        return was;
    }

    public int count(int what) {
        switch (what) {
            case 0: return room.day;
            case 1: return room.deposits;
            case 2: return room.girls;
            case 3: return room.fees;
            case 4: return room.metTogether();
            case 5: return reader.count;
            case 6: return room.z;
            case 7: return room.heldSpots();
            default: return finding(BEYOND);
        }
    }

    public int status(int which) {
        if (which == -1) {
            return foundTogether();
        }
        return within(which, 0, FINDINGS - 1) ? found[which] : finding(BEYOND);
    }

    // ---- findings and ranges

    private int finding(int which) {
        found[which]++;
        return LOW - which;
    }

    private int foundTogether() {
        int sum = 0;
        for (int count : found) {
            sum += count;
        }
        return sum;
    }

    private static boolean within(int v, int least, int most) {
        return v >= least && v <= most;
    }

    private static boolean isHanger(int hanger) {
        return within(hanger, 0, HANGERS - 1);
    }

    private static boolean isKind(int kind) {
        return within(kind, 0, KINDS - 1);
    }

    private static boolean isSpot(int spot) {
        return within(spot, 0, SPOTS - 1);
    }

    private static boolean isSheet(int s) {
        return within(s, 0, SHEETS - 1);
    }

    private static int standOf(int girl, int hanger) {
        return 100 * girl + hanger;
    }

    private static boolean isUnder(int kind, int upper) {
        int at = kind;
        for (int steps = 0; steps < KINDS && at != NOTHING; steps++) {
            if (at == upper) {
                return true;
            }
            at = ABOVE[at];
        }
        return false;
    }

    private static long power(int base, int n) {
        long product = 1;
        for (int i = 0; i < n; i++) {
            product *= base;
        }
        return product;
    }

    // ---- trials

    private void tryDays(int n) {
        trial.become(room);
        trial.passDays(n);
    }

    private int fewestDays(int gauge, int who, int v) {
        trial.become(room);
        for (int days = 0; days <= MOST_AWAITED; days++) {
            if (trial.gauge(gauge, who) >= v) {
                return days;
            }
            trial.passDays(1);
        }
        return finding(NONE);
    }

    private int bestFor(int vary, int which, int n) {
        int options = vary == VARY_KIND ? KINDS : HANGERS;
        int best = 0;
        int most = -1;
        for (int option = 0; option < options; option++) {
            trial.become(room);
            trial.vary(vary, which, option);
            trial.passDays(n);
            int met = trial.metTogether();
            if (met > most) {
                most = met;
                best = option;
            }
        }
        return best;
    }

    /**
     * With a hope that no dream comes up to, a dream only grows: every hope up to what it is on
     * the girl's last stand would have been met by then, and no other.
     */
    private int dreamOfLastStand(int girl, int n) {
        trial.become(room);
        trial.hope[girl] = MOST_DREAM + 1;
        int dream = 0;
        for (int i = 0; i < n; i++) {
            boolean stands = trial.girlOfDay() == girl;
            trial.passDays(1);
            if (stands) {
                dream = trial.dream[girl];
            }
        }
        return dream;
    }

    private boolean nobodyMeets(int given, int n) {
        trial.become(room);
        trial.giveOutSet(given);
        int met = room.metTogether();
        for (int i = 0; i < n; i++) {
            trial.passDays(1);
            if (trial.metTogether() != met) {
                return false;
            }
        }
        return true;
    }

    private int refusedAsTold(int s, int deposit) {
        if (!isSheet(s)) {
            return BEYOND;
        }
        if (sheets[s].isMissing()) {
            return MISSING;
        }
        return room.hasDeposit(deposit) ? NOTHING : BEYOND;
    }

    private int setAsTold(int vary, Sheet sheet, int deposit) {
        int options = vary == VARY_KIND ? KINDS : HANGERS;
        int set = 0;
        for (int option = 0; option < options; option++) {
            trial.become(room);
            trial.vary(vary, deposit, option);
            if (trialIsAsTold(sheet)) {
                set |= 1 << option;
            }
        }
        return set;
    }

    private boolean trialIsAsTold(Sheet sheet) {
        int asked = Math.min(sheet.size, MOST_ASKED);
        for (int i = 0; i < asked; i++) {
            int told = sheet.numbers[i];
            if (told != ANY && told != trial.lightAt(0)) {
                return false;
            }
            trial.passDays(1);
        }
        return true;
    }

    /** All that an image keeps. */
    private static final class Room {
        int day;
        int fees;
        int z = 1;
        int deposits;
        int girls;
        final int[] list = new int[STANDS];
        final int[] kind = new int[MOST_DEPOSITS];
        final int[] hanger = new int[MOST_DEPOSITS];
        final int[] stub = new int[MOST_DEPOSITS];
        final int[] kept = new int[MOST_DEPOSITS];
        final int[] worn = new int[MOST_DEPOSITS];
        final int[] out = new int[MOST_DEPOSITS];
        final int[] dream = new int[MOST_GIRLS];
        final int[] hope = new int[MOST_GIRLS];
        final int[] met = new int[MOST_GIRLS];
        final int[] spots = new int[SPOTS];

        Room() {
            Arrays.fill(spots, NOTHING);
        }

        void become(Room other) {
            day = other.day;
            fees = other.fees;
            z = other.z;
            deposits = other.deposits;
            girls = other.girls;
            System.arraycopy(other.list, 0, list, 0, STANDS);
            System.arraycopy(other.kind, 0, kind, 0, MOST_DEPOSITS);
            System.arraycopy(other.hanger, 0, hanger, 0, MOST_DEPOSITS);
            System.arraycopy(other.stub, 0, stub, 0, MOST_DEPOSITS);
            System.arraycopy(other.kept, 0, kept, 0, MOST_DEPOSITS);
            System.arraycopy(other.worn, 0, worn, 0, MOST_DEPOSITS);
            System.arraycopy(other.out, 0, out, 0, MOST_DEPOSITS);
            System.arraycopy(other.dream, 0, dream, 0, MOST_GIRLS);
            System.arraycopy(other.hope, 0, hope, 0, MOST_GIRLS);
            System.arraycopy(other.met, 0, met, 0, MOST_GIRLS);
            System.arraycopy(other.spots, 0, spots, 0, SPOTS);
        }

        boolean hasDeposit(int d) {
            return within(d, 0, deposits - 1);
        }

        boolean hasGirl(int g) {
            return within(g, 0, girls - 1);
        }

        /** The caller has seen that there is a place. */
        int addDeposit(int newKind, int newHanger) {
            int d = deposits++;
            kind[d] = newKind;
            hanger[d] = newHanger;
            stub[d] = 10 * d;
            kept[d] = 0;
            worn[d] = 0;
            out[d] = 0;
            return d;
        }

        /** The caller has seen that there is a place. */
        int addGirl(int newHope) {
            int g = girls++;
            dream[g] = 0;
            hope[g] = newHope;
            met[g] = 0;
            return g;
        }

        int[] depositRow(int what) {
            switch (what) {
                case OF_KIND: return kind;
                case OF_HANGER: return hanger;
                case OF_STUB: return stub;
                case OF_KEPT: return kept;
                case OF_WORN: return worn;
                default: return out;
            }
        }

        int[] girlRow(int what) {
            switch (what) {
                case GIRL_DREAM: return dream;
                case GIRL_HOPE: return hope;
                default: return met;
            }
        }

        int tellOf(int d, int what) {
            switch (what) {
                case OF_SHINES: return shineOf(d);
                case OF_REACHES: return reachOf(d);
                case OF_WEARS: return wearOf(d);
                case OF_COSTS: return costOf(d);
                default: return depositRow(what)[d];
            }
        }

        int gauge(int gauge, int who) {
            switch (gauge) {
                case GAUGE_MET: return met[who];
                case GAUGE_WORN: return worn[who];
                default: return fees;
            }
        }

        void vary(int vary, int which, int option) {
            switch (vary) {
                case VARY_HANGER: hanger[which] = option; break;
                case VARY_STAND: list[which] = standOf(list[which] / 100, option); break;
                default: kind[which] = option; break;
            }
        }

        /** Told of what is out, too: that it gives no light then is for lightAt() to see. */
        int shineOf(int d) {
            int evening = Math.min(20 + kept[d] / 10, 50);
            int dusk = evening / 2;
            switch (kind[d]) {
                case EVENING: return evening;
                case DUSK: return dusk;
                case MOON: return dusk + worn[d];
                case TOPPER: return 3;
                default: return 0;
            }
        }

        int reachOf(int d) {
            switch (kind[d]) {
                case EVENING: return EVENING_REACHES;
                case DUSK: return DUSK_REACHES;
                case MOON: return DUSK_REACHES + worn[d] / 20;
                default: return 0;
            }
        }

        int wearOf(int d) {
            int dusk = EVENING_WEARS + day % 2;
            switch (kind[d]) {
                case COAT: return COAT_WEARS;
                case EVENING: return EVENING_WEARS;
                case DUSK: return dusk;
                case MOON: return dusk + 1;
                case UMBRELLA: return COAT_WEARS + (lightAt(hanger[d]) > 0 ? 1 : 0);
                default: return HAT_WEARS;
            }
        }

        int costOf(int d) {
            switch (kind[d]) {
                case COAT: return COAT_COSTS;
                case HAT: return HAT_COSTS;
                case TOPPER: return TOPPER_COSTS;
                case UMBRELLA: return UMBRELLA_COSTS;
                default: return 0;
            }
        }

        int lightAt(int h) {
            int sum = 0;
            for (int d = 0; d < deposits; d++) {
                int off = Math.abs(h - hanger[d]);
                if (out[d] == 0 && off <= reachOf(d)) {
                    sum += Math.max(0, shineOf(d) - 3 * off);
                }
            }
            return sum;
        }

        void passDays(int n) {
            for (int i = 0; i < n; i++) {
                letStand();
                fees = Math.min(fees + costTogether(), MOST_FEES);
                // One by one: what an umbrella wears hangs on what those before it have become.
                for (int d = 0; d < deposits; d++) {
                    if (out[d] == 0) {
                        worn[d] = Math.min(worn[d] + wearOf(d), MOST_WORN);
                        kept[d] = Math.min(kept[d] + 1, MOST_KEPT);
                    }
                }
                day = Math.min(day + 1, MOST_DAY);
            }
        }

        int girlOfDay() {
            return list[day % STANDS] / 100;
        }

        void letStand() {
            int girl = girlOfDay();
            if (girl >= girls) {
                return;
            }
            dream[girl] = Math.min(dream[girl] + lightAt(list[day % STANDS] % 100), MOST_DREAM);
            if (dream[girl] >= hope[girl]) {
                met[girl] = Math.min(met[girl] + 1, MOST_MET);
                dream[girl] = 0;
            }
        }

        int costTogether() {
            int sum = 0;
            for (int d = 0; d < deposits; d++) {
                if (out[d] == 0) {
                    sum += costOf(d);
                }
            }
            return sum;
        }

        int metTogether() {
            int sum = 0;
            for (int g = 0; g < girls; g++) {
                sum += met[g];
            }
            return sum;
        }

        int dreamTogether() {
            int sum = 0;
            for (int g = 0; g < girls; g++) {
                sum += dream[g];
            }
            return sum;
        }

        int outSet() {
            int set = 0;
            for (int d = 0; d < deposits; d++) {
                if (out[d] != 0) {
                    set |= 1 << d;
                }
            }
            return set;
        }

        void giveOutSet(int set) {
            for (int d = 0; d < deposits; d++) {
                if ((set >> d & 1) != 0) {
                    out[d] = 1;
                }
            }
        }

        int darkHangers() {
            int set = 0;
            for (int h = 0; h < HANGERS; h++) {
                if (lightAt(h) == 0) {
                    set |= 1 << h;
                }
            }
            return set;
        }

        int lightestHanger() {
            int lightest = 0;
            int most = lightAt(0);
            for (int h = 1; h < HANGERS; h++) {
                int light = lightAt(h);
                if (light > most) {
                    most = light;
                    lightest = h;
                }
            }
            return lightest;
        }

        int heldSpots() {
            int held = 0;
            for (int spot = 0; spot < SPOTS; spot++) {
                if (spots[spot] != NOTHING) {
                    held++;
                }
            }
            return held;
        }

        int draw() {
            z = z * 1103515245 + 12345;
            return z >>> 8;
        }
    }

    /** A row of numbers of as many bits; of no bits if it is missing. */
    private static final class Sheet {
        int bits;
        int size;
        final int[] numbers = new int[MOST_NUMBERS];

        boolean isMissing() {
            return bits == 0;
        }

        void begin(int newBits, int newSize) {
            bits = newBits;
            size = newSize;
            Arrays.fill(numbers, 0);
        }

        void put(int i, int v) {
            switch (bits) {
                case 8: numbers[i] = (byte) v; break;
                case 16: numbers[i] = (short) v; break;
                default: numbers[i] = v; break;
            }
        }

        /** By a difference: a sum of two of them could be more than an int. */
        boolean hasRun(int from, int n) {
            return from >= 0 && n >= 0 && from <= size && n <= size - from;
        }
    }

    /** The tape, and one token of it at a time, which is where a fault is. */
    private static final class Reader {
        private static final int END = 0;
        private static final int WORD = 1;
        private static final int NUMBER = 2;
        private static final int SIGN = 3;
        private static final int OTHER = 4;
        /** No place in a text takes a number so great. */
        private static final int TOO_GREAT = 10000;

        final int[] bytes = new int[MOST_BYTES];
        int count;
        private int token;
        private int start;
        private int behind;
        private int number;

        /** The caller has seen that there is a place. */
        void append(int value) {
            bytes[count++] = value;
        }

        /** How many items, all of them told to the room, or -1 less the fault. */
        int readText(Room room) {
            behind = 0;
            step();
            for (int items = 1; items <= MOST_BYTES; items++) {
                if (!readItem(room)) {
                    break;
                }
                if (token == END) {
                    return items;
                }
                if (token != SIGN) {
                    break;
                }
                step();
            }
            return -1 - start;
        }

        private boolean readItem(Room room) {
            if (isWord("girl")) {
                return readGirl(room);
            }
            if (isWord("stand")) {
                return readStand(room);
            }
            for (int kind = 0; kind < KINDS; kind++) {
                if (isWord(kindWord(kind))) {
                    return readDeposit(room, kind);
                }
            }
            return false;
        }

        private boolean readDeposit(Room room, int kind) {
            if (room.deposits >= MOST_DEPOSITS) {
                return false;
            }
            int d = room.addDeposit(kind, 0);
            step();
            if (!readPart("on", room.hanger, d, HANGERS - 1) || !readPart("stub", room.stub, d, MOST_STUB)
                    || !readPart("kept", room.kept, d, MOST_KEPT) || !readPart("worn", room.worn, d, MOST_WORN)) {
                return false;
            }
            if (isWord("out")) {
                room.out[d] = 1;
                step();
            }
            return true;
        }

        /** Perhaps a word and its number; false if the word is there and its number is not. */
        private boolean readPart(String word, int[] row, int d, int most) {
            if (!isWord(word)) {
                return true;
            }
            step();
            if (!isNumber(0, most)) {
                return false;
            }
            row[d] = number;
            step();
            return true;
        }

        private boolean readGirl(Room room) {
            if (room.girls >= MOST_GIRLS) {
                return false;
            }
            int g = room.addGirl(FIRST_HOPE);
            step();
            if (isWord("hope")) {
                step();
                if (!isNumber(1, MOST_HOPE)) {
                    return false;
                }
                room.hope[g] = number;
                step();
            }
            return true;
        }

        private boolean readStand(Room room) {
            step();
            if (!isNumber(0, STANDS - 1)) {
                return false;
            }
            int i = number;
            step();
            if (!isNumber(0, MOST_GIRLS - 1)) {
                return false;
            }
            int girl = number;
            step();
            if (!isNumber(0, HANGERS - 1)) {
                return false;
            }
            room.list[i] = standOf(girl, number);
            step();
            return true;
        }

        private boolean isNumber(int least, int most) {
            return token == NUMBER && within(number, least, most);
        }

        private boolean isWord(String word) {
            if (token != WORD || behind - start != word.length()) {
                return false;
            }
            for (int i = 0; i < word.length(); i++) {
                if (bytes[start + i] != word.charAt(i)) {
                    return false;
                }
            }
            return true;
        }

        /** Goes on to the next token; at the end it starts where the tape ends. */
        private void step() {
            start = behind;
            while (start < count && bytes[start] == ' ') {
                start++;
            }
            behind = start;
            if (start >= count) {
                token = END;
            } else if (isLetter(bytes[start])) {
                token = WORD;
                while (behind < count && isLetter(bytes[behind])) {
                    behind++;
                }
            } else if (isDigit(bytes[start])) {
                token = NUMBER;
                number = 0;
                while (behind < count && isDigit(bytes[behind])) {
                    number = Math.min(10 * number + bytes[behind] - '0', TOO_GREAT);
                    behind++;
                }
            } else {
                token = bytes[start] == ';' ? SIGN : OTHER;
                behind++;
            }
        }

        private static boolean isLetter(int value) {
            return value >= 'a' && value <= 'z';
        }

        private static boolean isDigit(int value) {
            return value >= '0' && value <= '9';
        }

        private static String kindWord(int kind) {
            switch (kind) {
                case COAT: return "coat";
                case EVENING: return "evening";
                case HAT: return "hat";
                case DUSK: return "dusk";
                case MOON: return "moon";
                case UMBRELLA: return "umbrella";
                default: return "topper";
            }
        }
    }
}
