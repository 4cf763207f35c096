import java.util.Arrays;

/** Watches coils for the step that happened once, and tells what is believed of it. */
public final class FluxWatch {
    public static final int BAD = -1000000001, NO = -1000000002, FULL = -1000000003, NONE = -1000000005, NOTHING = -1000000011, KIND = -1000000012, INDEX = -1000000013, SIZE = -1000000014;

    private static final int COIL_ROOM = 6;
    private static final int WATCH_ROOM = 20;
    private static final int STEP_ROOM = 40;
    private static final int LAW_ROOM = 14;
    private static final int KNOCK_ROOM = 60;
    private static final int KEY_ROOM = 10;
    private static final int OFFER_ROOM = 8;
    private static final int SHEET_ROOM = 4;
    private static final int PLACE_ROOM = 24;
    private static final int SLOT_ROOM = 5;
    private static final int TAPE_ROOM = 96;
    private static final int WAITING_ROOM = 60;

    private static final int LAST_DAY = 1999;
    private static final int LOOK_DAYS = 200;
    private static final int BUY_DAYS = 60;
    private static final int TOP_SIZE = 9;
    private static final int TOP_HEIGHT = 999;
    private static final int SURE = 10000;

    private static final int STEP = 0;
    private static final int JUST = 1;
    private static final int KNOCKED = 2;
    private static final int PAIRED = 3;
    private static final int PLAYED = 4;
    private static final int UNSEEN = 5;
    /** The kind right above each kind; -1 above the topmost. */
    private static final int[] ABOVE = {-1, STEP, STEP, JUST, KNOCKED, STEP};

    /** What WANTED, PEN, BELIEF and THE WORLD may be, in the order of set. */
    private static final int[] LEAST = {1, 0, 0, 0};
    private static final int[] MOST = {999, 99, SURE, 1};

    private static final int RATE = 0;
    private static final int KNOCK = 1;
    private static final int STARS = 2;

    private static final int MISSING = -1;
    private static final int SHORTS = 0;
    private static final int FLOATS = 1;
    private static final int TOP_FLOAT = 99999;
    /** Marks a place of floats as NO NUMBER: no float may be that low. */
    private static final int NO_NUMBER = NONE;

    private static final int HOLDS_NOTHING = 0;
    private static final int HOLDS_STEP = 1;
    private static final int HOLDS_SHEET = 2;
    private static final int HOLDS_NUMBER = 3;

    private final World now;
    private final World image;
    /** The days told are played here, so that neither the world nor its image moves. */
    private final World trial;
    private boolean imageKept;
    private final Sheet[] sheets;
    private final Slot[] slots;
    private final int[] waiting;
    private int waitingMany;
    private final LawReader reader;
    private final Buyer buyer;

    public FluxWatch() {
        now = new World();
        image = new World();
        trial = new World();
        sheets = new Sheet[SHEET_ROOM];
        for (int i = 0; i < SHEET_ROOM; i++) {
            sheets[i] = new Sheet();
        }
        slots = new Slot[SLOT_ROOM];
        for (int i = 0; i < SLOT_ROOM; i++) {
            slots[i] = new Slot();
        }
        waiting = new int[WAITING_ROOM];
        reader = new LawReader();
        buyer = new Buyer();
    }

    // ---- coils, watches

    public int coil(int size) {
        return isSize(size) ? now.coils.add(size) : BAD;
    }

    public int coilTold(int coil, int what) {
        Coils coils = now.coils;
        if (!coils.has(coil)) {
            return BAD;
        }
        switch (what) {
            case 0:
                return coils.size[coil];
            case 1:
                return coils.creep[coil];
            case 2:
                return coils.mate[coil];
            case 3:
                return now.isWatched(coil, now.day) ? 1 : 0;
            case 4:
                return now.steps.manyOf(coil);
            default:
                return BAD;
        }
    }

    public int creep(int coil, int v) {
        if (!now.coils.has(coil) || v < -9 || v > 9) {
            return BAD;
        }
        int was = now.coils.creep[coil];
        now.coils.creep[coil] = v;
        return was;
    }

    public int pair(int one, int other) {
        Coils coils = now.coils;
        if (!coils.has(one) || !coils.has(other) || one == other) {
            return BAD;
        }
        if (coils.mate[one] != NONE || coils.mate[other] != NONE) {
            return NO;
        }
        coils.mate[one] = other;
        coils.mate[other] = one;
        return 1;
    }

    public int part(int coil) {
        Coils coils = now.coils;
        if (!coils.has(coil)) {
            return BAD;
        }
        int mate = coils.mate[coil];
        if (!coils.has(mate)) {
            return NO;
        }
        coils.mate[coil] = NONE;
        coils.mate[mate] = NONE;
        return mate;
    }

    public int watch(int coil, int from, int to) {
        return now.coils.has(coil) && isSpan(from, to) ? now.watches.add(coil, from, to) : BAD;
    }

    public int seen(int day) {
        return isDay(day) ? now.seenOn(day) : BAD;
    }

    public int line(int coil, int day) {
        return now.coils.has(coil) && isDay(day) ? now.lineOf(coil, day) : BAD;
    }

    // ---- steps

    public int step(int kind, int coil, int day, int height) {
        if (!isKind(kind) || !now.coils.has(coil) || day < 0 || day > now.day || !isHeight(height)) {
            return BAD;
        }
        return now.steps.add(kind, coil, day, height);
    }

    public int told(int step, int what) {
        Steps steps = now.steps;
        if (!steps.has(step)) {
            return BAD;
        }
        switch (what) {
            case 0:
                return steps.kind[step];
            case 1:
                return steps.coil[step];
            case 2:
                return steps.day[step];
            case 3:
                return steps.height[step];
            case 4:
                return now.stepFits(step) ? 1 : 0;
            case 5:
                return worthOf(steps.kind[step], steps.height[step], now.wanted);
            default:
                return BAD;
        }
    }

    public int as(int step, int kind) {
        if (!now.steps.has(step) || !isKind(kind)) {
            return BAD;
        }
        return isUnder(now.steps.kind[step], kind) ? now.steps.height[step] : KIND;
    }

    public int turns(int step, int kind) {
        if (!now.steps.has(step) || !isKind(kind)) {
            return BAD;
        }
        int was = now.steps.kind[step];
        now.steps.kind[step] = kind;
        return was;
    }

    public int drop(int step) {
        if (!now.steps.has(step)) {
            return BAD;
        }
        now.steps.removeAt(step);
        return now.steps.many;
    }

    public int set(int what, int v) {
        if (what < 0 || what >= LEAST.length || what >= MOST.length) {
            return BAD;
        }
        return v < LEAST[what] || v > MOST[what] ? BAD : now.change(what, v);
    }

    public int fit() {
        int fitting = 0;
        for (int i = 0; i < now.steps.many; i++) {
            if (now.stepFits(i)) {
                fitting++;
            }
        }
        return fitting;
    }

    // ---- days

    public int run(int n) {
        if (n < 1 || n > 60) {
            return BAD;
        }
        if (now.day + n > LAST_DAY) {
            return FULL;
        }
        for (int i = 0; i < n; i++) {
            now.passDay();
        }
        return now.belief;
    }

    public int news(int day, int what) {
        if (!isDay(day)) {
            return BAD;
        }
        switch (what) {
            case 0:
                return now.rateOn(day, now.seenOn(day));
            case 1:
                return now.knockOn(day, now.seenOn(day));
            case 2:
                return now.hasFit(day) ? 1 : 0;
            default:
                return BAD;
        }
    }

    public int since(int n) {
        if (n < 0 || n > LOOK_DAYS) {
            return BAD;
        }
        int belief = now.belief;
        for (int i = 0; i < n; i++) {
            belief = now.believedBehind(belief, now.day + i);
        }
        return belief;
    }

    public int falls(int v) {
        if (v < 0 || v > SURE) {
            return BAD;
        }
        int belief = now.belief;
        for (int i = 0; i < LOOK_DAYS; i++) {
            belief = now.believedBehind(belief, now.day + i);
            if (belief < v) {
                return now.day + i;
            }
        }
        return NONE;
    }

    public int await() {
        int p = 1000000;
        for (int i = 0; i < LOOK_DAYS; i++) {
            int day = now.day + i;
            p = p * (1000 - now.rateOn(day, now.seenOn(day))) / 1000;
            if (p <= 500000) {
                return day;
            }
        }
        return NONE;
    }

    public int beyond() {
        Law stars = now.lawFor(STARS);
        if (stars == null) {
            return NONE;
        }
        for (int i = 0; i < LOOK_DAYS; i++) {
            int day = now.day + i;
            int seen = now.seenOn(day);
            if (now.rateOn(day, seen) > stars.valueOn(day, seen, now)) {
                return day;
            }
        }
        return NONE;
    }

    public int seed(int v) {
        int was = now.z;
        now.z = v;
        return was;
    }

    // ---- laws

    public int feed(int a, int b, int c) {
        Tape tape = reader.tape;
        if (tape.many + 12 > TAPE_ROOM) {
            return FULL;
        }
        tape.addBytesOf(a);
        tape.addBytesOf(b);
        tape.addBytesOf(c);
        return tape.many;
    }

    public int trim(int n) {
        if (n < 0 || n > reader.tape.many) {
            return BAD;
        }
        reader.tape.many = n;
        return n;
    }

    public int text() {
        boolean read = reader.readLaw();
        int fault = reader.tape.start;
        reader.tape.many = 0;
        if (!read) {
            return -100 - fault;
        }
        return now.addLaw(reader.lawRead());
    }

    public int textTold(int text, int what) {
        if (text < 0 || text >= now.lawMany) {
            return BAD;
        }
        Law law = now.laws[text];
        if (law == null || what < 0 || what > 1) {
            return BAD;
        }
        return what == 0 ? law.key : law.parts;
    }

    public int why(int key) {
        return key < RATE || key > STARS ? BAD : now.lastLaw[key];
    }

    // ---- knocks, keys, offers

    public int knock(int height) {
        return isHeight(height) ? now.addKnock(height) : BAD;
    }

    public int pour(int sheet) {
        if (!isSheet(sheet)) {
            return BAD;
        }
        Sheet row = sheets[sheet];
        if (row.isMissing()) {
            return NOTHING;
        }
        int coming = heightsAhead(row);
        if (now.knockMany + coming > KNOCK_ROOM) {
            return FULL;
        }
        for (int i = 0; i < coming; i++) {
            now.addKnock(row.places[i]);
        }
        return coming;
    }

    public int chance() {
        return now.knocksWithin(now.pen);
    }

    public int width(int k) {
        if (k < 0 || k > KNOCK_ROOM) {
            return BAD;
        }
        for (int pen = 0; pen <= 99; pen++) {
            if (now.knocksWithin(pen) >= k) {
                return pen;
            }
        }
        return NONE;
    }

    public int key(int from, int to) {
        return isSpan(from, to) ? now.keys.add(0, from, to) : BAD;
    }

    public int keys(int day) {
        return isDay(day) ? now.keys.manyOn(day) : BAD;
    }

    public int jokes() {
        int jokes = 0;
        for (int i = 0; i < now.steps.many; i++) {
            if (now.keys.manyOn(now.steps.day[i]) > 0 && now.stepFits(i)) {
                jokes++;
            }
        }
        return jokes;
    }

    public int offer(int size, int price) {
        return isSize(size) && price >= 0 && price <= 999 ? now.offers.add(size, price) : BAD;
    }

    public int clear() {
        int were = now.offers.many;
        now.offers.many = 0;
        return were;
    }

    public int best(int sum, int what) {
        if (!isSum(sum) || what < 0 || what > 2) {
            return BAD;
        }
        buyer.chooseLargest(now.offers, sum);
        switch (what) {
            case 0:
                return buyer.chosen;
            case 1:
                return buyer.chosenSize;
            default:
                return buyer.chosenPrice;
        }
    }

    public int soonest(int sum, int v, int what) {
        if (!isSum(sum) || v < 0 || v > SURE || what < 0 || what > 2) {
            return BAD;
        }
        if (!buyer.choosesSoonest(now, sum, v)) {
            return NONE;
        }
        switch (what) {
            case 0:
                return buyer.chosen;
            case 1:
                return buyer.chosenDays;
            default:
                return buyer.chosenPrice;
        }
    }

    // ---- sheets, slots

    public int sheet(int sheet, int sort, int n) {
        if (!isSheet(sheet) || sort < MISSING || sort > FLOATS) {
            return BAD;
        }
        if (sort == MISSING) {
            sheets[sheet].become(MISSING, 0);
            return 0;
        }
        if (n > PLACE_ROOM) {
            return BAD;
        }
        if (n < 0) {
            return SIZE;
        }
        sheets[sheet].become(sort, n);
        return n;
    }

    public int mark(int sheet, int place, int v) {
        if (!isSheet(sheet)) {
            return BAD;
        }
        Sheet row = sheets[sheet];
        if (row.isMissing()) {
            return NOTHING;
        }
        if (!row.has(place)) {
            return INDEX;
        }
        if (row.sort == SHORTS) {
            if (v == NONE) {
                return KIND;
            }
            row.places[place] = (short) v;
            return 1;
        }
        if (v != NONE && (v < -TOP_FLOAT || v > TOP_FLOAT)) {
            return BAD;
        }
        row.places[place] = v == NONE ? NO_NUMBER : v;
        return 1;
    }

    public int reads(int sheet, int coil, int day) {
        if (!isSheet(sheet) || !now.coils.has(coil) || !isDay(day)) {
            return BAD;
        }
        Sheet row = sheets[sheet];
        if (row.isMissing()) {
            return NOTHING;
        }
        for (int i = 0; i < row.many; i++) {
            if (row.places[i] != NO_NUMBER && row.places[i] != now.lineOf(coil, day + i)) {
                return i;
            }
        }
        return NONE;
    }

    public int copy(int from, int place, int to, int at, int many) {
        if (!isSheet(from) || !isSheet(to)) {
            return BAD;
        }
        Sheet source = sheets[from];
        Sheet target = sheets[to];
        if (source.isMissing() || target.isMissing()) {
            return NOTHING;
        }
        if (source.sort != target.sort) {
            return KIND;
        }
        if (!source.hasRow(place, many) || !target.hasRow(at, many)) {
            return INDEX;
        }
        System.arraycopy(source.places, place, target.places, at, many);
        return many;
    }

    public int lay(int slot, int thing, int k) {
        if (!isSlot(slot) || thing < HOLDS_NOTHING || thing > HOLDS_NUMBER) {
            return BAD;
        }
        if (thing == HOLDS_STEP && !now.steps.has(k) || thing == HOLDS_SHEET && !isSheet(k)) {
            return BAD;
        }
        if (thing == HOLDS_SHEET && sheets[k].isMissing()) {
            return NOTHING;
        }
        Slot held = slots[slot];
        int was = held.thing;
        held.thing = thing;
        if (thing == HOLDS_STEP) {
            held.kind = now.steps.kind[k];
            held.height = now.steps.height[k];
        } else if (thing == HOLDS_SHEET) {
            held.row.takeOver(sheets[k]);
        } else {
            held.number = k;
        }
        return was;
    }

    public int ask(int slot, int kind) {
        if (!isSlot(slot) || !isKind(kind)) {
            return BAD;
        }
        Slot held = slots[slot];
        if (held.thing == HOLDS_NOTHING) {
            return NOTHING;
        }
        if (held.thing != HOLDS_STEP || !isUnder(held.kind, kind)) {
            return KIND;
        }
        return worthOf(held.kind, held.height, now.wanted);
    }

    public int item(int slot, int place) {
        if (!isSlot(slot)) {
            return BAD;
        }
        Slot held = slots[slot];
        if (held.thing == HOLDS_NOTHING) {
            return NOTHING;
        }
        if (held.thing != HOLDS_SHEET) {
            return KIND;
        }
        if (!held.row.has(place)) {
            return INDEX;
        }
        int v = held.row.places[place];
        return v == NO_NUMBER ? KIND : v;
    }

    public int rest(int slot, int n) {
        if (!isSlot(slot)) {
            return BAD;
        }
        Slot held = slots[slot];
        if (held.thing == HOLDS_NOTHING) {
            return NOTHING;
        }
        if (held.thing != HOLDS_NUMBER) {
            return KIND;
        }
        return n == 0 ? NO : held.number % n;
    }

    // ---- rows, images

    public int tell(int v) {
        if (waitingMany >= WAITING_ROOM) {
            return FULL;
        }
        waiting[waitingMany] = v;
        waitingMany++;
        return waitingMany;
    }

    public int check(int n) {
        int many = waitingMany;
        waitingMany = 0;
        if (n < 1 || n > 30) {
            return BAD;
        }
        if (!imageKept) {
            return NO;
        }
        trial.takeOver(image);
        for (int i = 0; i < n; i++) {
            trial.passDay();
            if (2 * i >= many || waiting[2 * i] != trial.belief) {
                return 1 + 2 * i;
            }
            if (2 * i + 1 >= many || waiting[2 * i + 1] != trial.steps.many) {
                return 2 + 2 * i;
            }
        }
        return many > 2 * n ? 1 + 2 * n : 0;
    }

    public int keep() {
        image.takeOver(now);
        imageKept = true;
        return now.day;
    }

    public int back() {
        if (!imageKept) {
            return NO;
        }
        now.takeOver(image);
        return now.day;
    }

    public int count(int what) {
        switch (what) {
            case 0:
                return now.coils.many;
            case 1:
                return now.watches.many;
            case 2:
                return now.steps.many;
            case 3:
                return now.lawMany;
            case 4:
                return now.knockMany;
            case 5:
                return now.keys.many;
            case 6:
                return now.offers.many;
            case 7:
                return now.coils.pairs();
            case 8:
                return now.belief;
            case 9:
                return now.day;
            case 10:
                return waitingMany;
            case 11:
                return reader.tape.many;
            case 12:
                return now.z;
            default:
                return BAD;
        }
    }

    private static boolean isSize(int size) {
        return size >= 1 && size <= TOP_SIZE;
    }

    private static boolean isDay(int day) {
        return day >= 0 && day <= LAST_DAY;
    }

    private static boolean isSpan(int from, int to) {
        return isDay(from) && isDay(to) && to >= from;
    }

    private static boolean isHeight(int height) {
        return height >= -TOP_HEIGHT && height <= TOP_HEIGHT;
    }

    private static boolean isSum(int sum) {
        return sum >= 0 && sum <= 9999;
    }

    private static boolean isKind(int kind) {
        return kind >= STEP && kind <= UNSEEN;
    }

    private static boolean isSheet(int sheet) {
        return sheet >= 0 && sheet < SHEET_ROOM;
    }

    private static boolean isSlot(int slot) {
        return slot >= 0 && slot < SLOT_ROOM;
    }

    /** Whether a kind is the other one, or stands anywhere under it. */
    private static boolean isUnder(int kind, int top) {
        int k = kind;
        for (int i = 0; i < ABOVE.length && isKind(k); i++) {
            if (k == top) {
                return true;
            }
            k = ABOVE[k];
        }
        return false;
    }

    private static int worthOf(int kind, int height, int wanted) {
        int tall = Math.abs(height);
        switch (kind) {
            case JUST:
                return tall + wanted;
            case KNOCKED:
                return tall / 2;
            case PAIRED:
                return 2 * (tall + wanted);
            case PLAYED:
                return tall / 2 - 1;
            case UNSEEN:
                return 0;
            default:
                return tall;
        }
    }

    /** How many places stand ahead of the first one that is no height. */
    private static int heightsAhead(Sheet row) {
        int ahead = 0;
        while (ahead < row.many && isHeight(row.places[ahead])) {
            ahead++;
        }
        return ahead;
    }

    /** The numbers of a row together at those places whose bits are set. */
    private static int sumOf(int[] row, int bits) {
        int sum = 0;
        for (int i = 0; i < row.length; i++) {
            if ((bits >> i & 1) != 0) {
                sum += row[i];
            }
        }
        return sum;
    }

    private static int heldRate(int v) {
        return Math.max(0, Math.min(999, v));
    }

    private static int believed(int belief, int r, int q, boolean fits) {
        int doubt = SURE - belief;
        // Longs: 10000 times x goes far beyond an int.
        long x = fits ? (long) belief * r : (long) belief * (1000 - r);
        long y = fits ? (long) doubt * q : (long) doubt * (1000 - q);
        long both = x + y;
        return both <= 0 ? belief : (int) (SURE * x / both);
    }

    private static final class Coils {
        final int[] size = new int[COIL_ROOM];
        final int[] creep = new int[COIL_ROOM];
        /** The coil that each one is in a pair with, or NONE. */
        final int[] mate = new int[COIL_ROOM];
        int many;

        boolean has(int coil) {
            return coil >= 0 && coil < many;
        }

        int add(int newSize) {
            if (many >= COIL_ROOM) {
                return FULL;
            }
            size[many] = newSize;
            creep[many] = 0;
            mate[many] = NONE;
            many++;
            return many - 1;
        }

        int pairs() {
            int paired = 0;
            for (int i = 0; i < many; i++) {
                if (mate[i] != NONE) {
                    paired++;
                }
            }
            return paired / 2;
        }

        void takeOver(Coils other) {
            System.arraycopy(other.size, 0, size, 0, COIL_ROOM);
            System.arraycopy(other.creep, 0, creep, 0, COIL_ROOM);
            System.arraycopy(other.mate, 0, mate, 0, COIL_ROOM);
            many = other.many;
        }
    }

    /** Spans of days: the watches, each of a coil, and the keys (of nobody: coil 0). */
    private static final class Spans {
        final int[] coil = new int[WATCH_ROOM];
        final int[] from = new int[WATCH_ROOM];
        final int[] to = new int[WATCH_ROOM];
        final int room;
        int many;

        Spans(int newRoom) {
            room = Math.min(newRoom, WATCH_ROOM);
        }

        int add(int newCoil, int newFrom, int newTo) {
            if (many >= room) {
                return FULL;
            }
            coil[many] = newCoil;
            from[many] = newFrom;
            to[many] = newTo;
            many++;
            return many - 1;
        }

        /** The coils of the spans that have a day, as bits: so each coil counts once. */
        int coilsOn(int day) {
            int bits = 0;
            for (int i = 0; i < many; i++) {
                if (day >= from[i] && day <= to[i]) {
                    bits |= 1 << coil[i];
                }
            }
            return bits;
        }

        int manyOn(int day) {
            int on = 0;
            for (int i = 0; i < many; i++) {
                if (day >= from[i] && day <= to[i]) {
                    on++;
                }
            }
            return on;
        }

        void takeOver(Spans other) {
            System.arraycopy(other.coil, 0, coil, 0, WATCH_ROOM);
            System.arraycopy(other.from, 0, from, 0, WATCH_ROOM);
            System.arraycopy(other.to, 0, to, 0, WATCH_ROOM);
            many = other.many;
        }
    }

    private static final class Steps {
        final int[] kind = new int[STEP_ROOM];
        final int[] coil = new int[STEP_ROOM];
        final int[] day = new int[STEP_ROOM];
        final int[] height = new int[STEP_ROOM];
        int many;

        boolean has(int step) {
            return step >= 0 && step < many;
        }

        boolean isFull() {
            return many >= STEP_ROOM;
        }

        int add(int newKind, int newCoil, int newDay, int newHeight) {
            if (isFull()) {
                return FULL;
            }
            kind[many] = newKind;
            coil[many] = newCoil;
            day[many] = newDay;
            height[many] = newHeight;
            many++;
            return many - 1;
        }

        void removeAt(int step) {
            many--;
            int behind = many - step;
            System.arraycopy(kind, step + 1, kind, step, behind);
            System.arraycopy(coil, step + 1, coil, step, behind);
            System.arraycopy(day, step + 1, day, step, behind);
            System.arraycopy(height, step + 1, height, step, behind);
        }

        int manyOf(int ofCoil) {
            int of = 0;
            for (int i = 0; i < many; i++) {
                if (coil[i] == ofCoil) {
                    of++;
                }
            }
            return of;
        }

        boolean hasOne(int ofCoil, int onDay) {
            for (int i = 0; i < many; i++) {
                if (coil[i] == ofCoil && day[i] == onDay) {
                    return true;
                }
            }
            return false;
        }

        int heightUpTo(int ofCoil, int lastDay) {
            int sum = 0;
            for (int i = 0; i < many; i++) {
                if (coil[i] == ofCoil && day[i] <= lastDay) {
                    sum += height[i];
                }
            }
            return sum;
        }

        void takeOver(Steps other) {
            System.arraycopy(other.kind, 0, kind, 0, STEP_ROOM);
            System.arraycopy(other.coil, 0, coil, 0, STEP_ROOM);
            System.arraycopy(other.day, 0, day, 0, STEP_ROOM);
            System.arraycopy(other.height, 0, height, 0, STEP_ROOM);
            many = other.many;
        }
    }

    private static final class Offers {
        final int[] size = new int[OFFER_ROOM];
        final int[] price = new int[OFFER_ROOM];
        int many;

        int add(int newSize, int newPrice) {
            if (many >= OFFER_ROOM) {
                return FULL;
            }
            size[many] = newSize;
            price[many] = newPrice;
            many++;
            return many - 1;
        }

        void takeOver(Offers other) {
            System.arraycopy(other.size, 0, size, 0, OFFER_ROOM);
            System.arraycopy(other.price, 0, price, 0, OFFER_ROOM);
            many = other.many;
        }
    }

    /** A text that was taken: its pieces stand behind one another, each sign behind what it works on. */
    private static final class Law {
        /** Below this a piece is a number; from it on it is this and the byte of a name or sign. */
        static final int BYTES = 10000;

        final int key;
        final int parts;
        final int[] pieces;
        /** Room to work in; no more than the numbers and names can stand open at once. */
        final int[] open;

        Law(int newKey, int newParts, int[] newPieces) {
            key = newKey;
            parts = newParts;
            pieces = newPieces;
            open = new int[Math.max(1, newParts)];
        }

        int valueOn(int day, int seen, World world) {
            int top = 0;
            for (int i = 0; i < pieces.length; i++) {
                int piece = pieces[i];
                if (piece == BYTES + '!') {
                    if (top > 0) {
                        open[top - 1] = open[top - 1] == 0 ? 1 : 0;
                    }
                } else if (piece < BYTES || isName(piece - BYTES)) {
                    if (top < open.length) {
                        open[top] = piece < BYTES ? piece : named(piece - BYTES, day, seen, world);
                        top++;
                    }
                } else if (top > 1) {
                    top--;
                    open[top - 1] = joined(piece - BYTES, open[top - 1], open[top]);
                }
            }
            return open[0];
        }

        static boolean isName(int sign) {
            return sign >= 'a' && sign <= 'z';
        }

        static int named(int name, int day, int seen, World world) {
            switch (name) {
                case 's':
                    return seen;
                case 'd':
                    return day;
                case 'w':
                    return world.wanted;
                default:
                    return world.pen;
            }
        }

        static int joined(int sign, int a, int b) {
            switch (sign) {
                case '|':
                    return a != 0 || b != 0 ? 1 : 0;
                case '&':
                    return a != 0 && b != 0 ? 1 : 0;
                case '<':
                    return a < b ? 1 : 0;
                case '=':
                    return a == b ? 1 : 0;
                case '>':
                    return a > b ? 1 : 0;
                case '+':
                    return a + b;
                case '-':
                    return a - b;
                case '*':
                    return a * b;
                default:
                    return b == 0 ? 0 : a / b;
            }
        }
    }

    /** The tape, read word by word and sign by sign. */
    private static final class Tape {
        static final int END = -1;
        static final int WORD = -2;
        static final int NUMBER = -3;
        /** A word that no text goes on with, wherever it stands. */
        static final int WRONG = -4;

        final int[] bytes = new int[TAPE_ROOM];
        int many;
        /** What stands open: one of the above, or the byte of a sign. */
        int sort;
        int start;
        int end;
        /** The number that stands open, or the letter of a word of one letter (else 0). */
        int value;

        void addBytesOf(int v) {
            for (int shift = 24; shift >= 0; shift -= 8) {
                if (many < TAPE_ROOM) {
                    bytes[many] = v >>> shift & 255;
                    many++;
                }
            }
        }

        void openFirst() {
            sort = END;
            end = 0;
            openNext();
        }

        void openNext() {
            boolean behindWord = sort == WORD || sort == NUMBER;
            start = end;
            while (start < many && bytes[start] == ' ') {
                start++;
            }
            boolean touches = start == end;
            end = start;
            if (start >= many) {
                sort = END;
            } else if (isLetter(start)) {
                openWord();
            } else if (isDigit(start)) {
                openNumber();
            } else {
                sort = bytes[start];
                end = start + 1;
            }
            if (behindWord && touches && (sort == WORD || sort == NUMBER)) {
                sort = WRONG;
            }
        }

        void openWord() {
            while (end < many && isLetter(end)) {
                end++;
            }
            sort = WORD;
            value = end - start == 1 ? bytes[start] : 0;
        }

        void openNumber() {
            value = 0;
            while (end < many && isDigit(end)) {
                if (end - start < 4) {
                    value = value * 10 + bytes[end] - '0';
                }
                end++;
            }
            sort = end - start > 4 ? WRONG : NUMBER;
        }

        boolean isLetter(int place) {
            return bytes[place] >= 'a' && bytes[place] <= 'z';
        }

        boolean isDigit(int place) {
            return bytes[place] >= '0' && bytes[place] <= '9';
        }

        boolean isOpen(String word) {
            if (sort != WORD || end - start != word.length()) {
                return false;
            }
            for (int i = 0; i < word.length(); i++) {
                if (bytes[start + i] != word.charAt(i)) {
                    return false;
                }
            }
            return true;
        }
    }

    /** Reads a law from the tape; where that fails, what stands open on the tape is the fault. */
    private static final class LawReader {
        static final int LOOSEST = 0;
        static final int TEST = 2;
        static final int TIGHTEST = 4;
        static final int DEEPEST = 8;

        final Tape tape = new Tape();
        final int[] pieces = new int[TAPE_ROOM];
        int pieceMany;
        int parts;
        int key;

        Law lawRead() {
            return new Law(key, parts, Arrays.copyOf(pieces, pieceMany));
        }

        boolean readLaw() {
            pieceMany = 0;
            parts = 0;
            tape.openFirst();
            key = openKey();
            if (key < 0) {
                return false;
            }
            tape.openNext();
            return readLevel(LOOSEST, 0, 0) && tape.sort == Tape.END;
        }

        private int openKey() {
            if (tape.isOpen("rate")) {
                return RATE;
            }
            if (tape.isOpen("knock")) {
                return KNOCK;
            }
            return tape.isOpen("stars") ? STARS : -1;
        }

        /** Rows of signs of a level, and what binds tighter between them; both depths are below DEEPEST. */
        private boolean readLevel(int level, int brackets, int nots) {
            if (level > TIGHTEST) {
                return readPiece(brackets, nots);
            }
            if (!readLevel(level + 1, brackets, nots)) {
                return false;
            }
            int most = level == TEST ? 1 : TAPE_ROOM;
            for (int i = 0; i < most && levelOf(tape.sort) == level; i++) {
                int sign = tape.sort;
                tape.openNext();
                if (!readLevel(level + 1, brackets, nots)) {
                    return false;
                }
                addPiece(Law.BYTES + sign);
            }
            return true;
        }

        private boolean readPiece(int brackets, int nots) {
            if (tape.sort == Tape.NUMBER || isNameOpen()) {
                addPiece(tape.sort == Tape.NUMBER ? tape.value : Law.BYTES + tape.value);
                parts++;
                tape.openNext();
                return true;
            }
            if (tape.sort == '!' && nots < DEEPEST) {
                return readNot(brackets, nots + 1);
            }
            return tape.sort == '(' && brackets < DEEPEST && readBracket(brackets + 1, nots);
        }

        private boolean readNot(int brackets, int nots) {
            tape.openNext();
            if (!readPiece(brackets, nots)) {
                return false;
            }
            addPiece(Law.BYTES + '!');
            return true;
        }

        private boolean readBracket(int brackets, int nots) {
            tape.openNext();
            if (!readLevel(LOOSEST, brackets, nots) || tape.sort != ')') {
                return false;
            }
            tape.openNext();
            return true;
        }

        private boolean isNameOpen() {
            if (tape.sort != Tape.WORD) {
                return false;
            }
            switch (tape.value) {
                case 's':
                case 'd':
                    return true;
                case 'w':
                    return key == RATE;
                case 'p':
                    return key == KNOCK;
                default:
                    return false;
            }
        }

        private void addPiece(int piece) {
            if (pieceMany < pieces.length) {
                pieces[pieceMany] = piece;
                pieceMany++;
            }
        }

        private static int levelOf(int sign) {
            switch (sign) {
                case '|':
                    return LOOSEST;
                case '&':
                    return 1;
                case '<':
                case '=':
                case '>':
                    return TEST;
                case '+':
                case '-':
                    return 3;
                case '*':
                case '/':
                    return TIGHTEST;
                default:
                    return -1;
            }
        }
    }

    /** All that an image keeps. */
    private static final class World {
        int day;
        int belief = 5000;
        int wanted = 80;
        int pen = 4;
        int world;
        int z = 1;
        final Coils coils = new Coils();
        final Spans watches = new Spans(WATCH_ROOM);
        final Steps steps = new Steps();
        /** A law never changes once it is made, so worlds may share it. */
        final Law[] laws = new Law[LAW_ROOM];
        int lawMany;
        final int[] lastLaw = {NONE, NONE, NONE};
        final int[] knocks = new int[KNOCK_ROOM];
        int knockMany;
        final Spans keys = new Spans(KEY_ROOM);
        final Offers offers = new Offers();

        void takeOver(World other) {
            day = other.day;
            belief = other.belief;
            wanted = other.wanted;
            pen = other.pen;
            world = other.world;
            z = other.z;
            coils.takeOver(other.coils);
            watches.takeOver(other.watches);
            steps.takeOver(other.steps);
            System.arraycopy(other.laws, 0, laws, 0, LAW_ROOM);
            lawMany = other.lawMany;
            System.arraycopy(other.lastLaw, 0, lastLaw, 0, lastLaw.length);
            System.arraycopy(other.knocks, 0, knocks, 0, KNOCK_ROOM);
            knockMany = other.knockMany;
            keys.takeOver(other.keys);
            offers.takeOver(other.offers);
        }

        int change(int what, int v) {
            int was;
            switch (what) {
                case 0:
                    was = wanted;
                    wanted = v;
                    return was;
                case 1:
                    was = pen;
                    pen = v;
                    return was;
                case 2:
                    was = belief;
                    belief = v;
                    return was;
                default:
                    was = world;
                    world = v;
                    return was;
            }
        }

        int addKnock(int height) {
            if (knockMany >= KNOCK_ROOM) {
                return FULL;
            }
            knocks[knockMany] = height;
            knockMany++;
            return knockMany - 1;
        }

        int addLaw(Law law) {
            if (lawMany >= LAW_ROOM || law.key < RATE || law.key > STARS) {
                return FULL;
            }
            laws[lawMany] = law;
            lastLaw[law.key] = lawMany;
            lawMany++;
            return lawMany - 1;
        }

        Law lawFor(int key) {
            int last = lastLaw[key];
            return last < 0 || last >= lawMany ? null : laws[last];
        }

        int seenOn(int onDay) {
            return sumOf(coils.size, watches.coilsOn(onDay));
        }

        boolean isWatched(int coil, int onDay) {
            return (watches.coilsOn(onDay) >> coil & 1) != 0;
        }

        int lineOf(int coil, int onDay) {
            return coils.creep[coil] * onDay + steps.heightUpTo(coil, onDay);
        }

        boolean isWithin(int height, int ofPen) {
            return Math.abs(Math.abs(height) - wanted) <= ofPen;
        }

        int knocksWithin(int ofPen) {
            int within = 0;
            for (int i = 0; i < knockMany; i++) {
                if (isWithin(knocks[i], ofPen)) {
                    within++;
                }
            }
            return within;
        }

        boolean stepFits(int step) {
            int height = steps.height[step];
            if (!isWithin(height, pen)) {
                return false;
            }
            switch (steps.kind[step]) {
                case JUST:
                    return height > 0;
                case PAIRED:
                    return height > 0 && mateSteps(steps.coil[step], steps.day[step]);
                case PLAYED:
                    return false;
                case UNSEEN:
                    return !isWatched(steps.coil[step], steps.day[step]);
                default:
                    return true;
            }
        }

        boolean mateSteps(int coil, int onDay) {
            int mate = coils.mate[coil];
            return mate != NONE && steps.hasOne(mate, onDay);
        }

        boolean hasFit(int onDay) {
            for (int i = 0; i < steps.many; i++) {
                if (steps.day[i] == onDay && stepFits(i)) {
                    return true;
                }
            }
            return false;
        }

        int rateOn(int onDay, int seen) {
            Law law = lawFor(RATE);
            return heldRate(law == null ? seen : law.valueOn(onDay, seen, this));
        }

        int knockOn(int onDay, int seen) {
            Law law = lawFor(KNOCK);
            return law == null ? 1 : heldRate(law.valueOn(onDay, seen, this));
        }

        int believedBehind(int before, int onDay) {
            int seen = seenOn(onDay);
            return believed(before, rateOn(onDay, seen), knockOn(onDay, seen), hasFit(onDay));
        }

        int nextDraw() {
            z = z * 1103515245 + 12345;
            return z >>> 8;
        }

        void passDay() {
            int watched = watches.coilsOn(day);
            int seen = sumOf(coils.size, watched);
            int r = rateOn(day, seen);
            int q = knockOn(day, seen);
            if (world == 1) {
                drawJust(watched, r);
            }
            drawKnocked(watched, q);
            belief = believed(belief, r, q, hasFit(day));
            day++;
        }

        void drawJust(int watched, int r) {
            boolean comes = nextDraw() % 1000 < r;
            if (comes && watched != 0 && !steps.isFull()) {
                steps.add(JUST, coilAt(watched, 0), day, wanted);
            }
        }

        void drawKnocked(int watched, int q) {
            boolean comes = nextDraw() % 1000 < q;
            int watchedMany = Integer.bitCount(watched);
            if (comes && watchedMany > 0 && !steps.isFull()) {
                int coil = coilAt(watched, nextDraw() % watchedMany);
                int height = knockMany > 0 ? knocks[nextDraw() % knockMany] : 1 + nextDraw() % 99;
                steps.add(KNOCKED, coil, day, height);
            }
        }

        /** The coil of the set that has so many of it below itself. */
        static int coilAt(int bits, int below) {
            int left = below;
            for (int i = 0; i < COIL_ROOM; i++) {
                if ((bits >> i & 1) != 0) {
                    if (left == 0) {
                        return i;
                    }
                    left--;
                }
            }
            return 0;
        }
    }

    /** Chooses among the sets of offers. */
    private static final class Buyer {
        int chosen;
        int chosenSize;
        int chosenPrice;
        int chosenDays;
        final int[] seenAhead = new int[BUY_DAYS];
        final boolean[] fitsAhead = new boolean[BUY_DAYS];
        /** Sets of one size fall alike, so the days of each size are worked out once; 0: not yet. */
        final int[] daysOfSize = new int[OFFER_ROOM * TOP_SIZE + 1];

        void choose(int bits, int size, int price, int days) {
            chosen = bits;
            chosenSize = size;
            chosenPrice = price;
            chosenDays = days;
        }

        void chooseLargest(Offers offers, int sum) {
            choose(0, 0, 0, 0);
            int sets = 1 << offers.many;
            for (int bits = 1; bits < sets; bits++) {
                int price = sumOf(offers.price, bits);
                int size = sumOf(offers.size, bits);
                boolean better = size > chosenSize || size == chosenSize && price < chosenPrice;
                if (price <= sum && better) {
                    choose(bits, size, price, 0);
                }
            }
        }

        boolean choosesSoonest(World world, int sum, int v) {
            lookAhead(world);
            choose(0, 0, 0, BUY_DAYS + 1);
            int sets = 1 << world.offers.many;
            for (int bits = 0; bits < sets; bits++) {
                int price = sumOf(world.offers.price, bits);
                if (price <= sum) {
                    int size = sumOf(world.offers.size, bits);
                    int days = daysOf(size, world, v);
                    if (days < chosenDays || days == chosenDays && price < chosenPrice) {
                        choose(bits, size, price, days);
                    }
                }
            }
            return chosenDays <= BUY_DAYS;
        }

        void lookAhead(World world) {
            Arrays.fill(daysOfSize, 0);
            for (int i = 0; i < BUY_DAYS; i++) {
                seenAhead[i] = world.seenOn(world.day + i);
                fitsAhead[i] = world.hasFit(world.day + i);
            }
        }

        int daysOf(int size, World world, int v) {
            if (size < 0 || size >= daysOfSize.length) {
                return BUY_DAYS + 1;
            }
            if (daysOfSize[size] == 0) {
                daysOfSize[size] = daysUntilBelow(v, size, world, Math.min(chosenDays, BUY_DAYS));
            }
            return daysOfSize[size];
        }

        /** Days beyond the most are no longer of use, as another set has fewer: they count as too many. */
        int daysUntilBelow(int v, int size, World world, int most) {
            int belief = world.belief;
            for (int i = 0; i < most && i < BUY_DAYS; i++) {
                int day = world.day + i;
                int seen = seenAhead[i] + size;
                belief = believed(belief, world.rateOn(day, seen), world.knockOn(day, seen), fitsAhead[i]);
                if (belief < v) {
                    return i + 1;
                }
            }
            return BUY_DAYS + 1;
        }
    }

    private static final class Sheet {
        int sort = MISSING;
        int many;
        final int[] places = new int[PLACE_ROOM];

        boolean isMissing() {
            return sort == MISSING;
        }

        boolean has(int place) {
            return place >= 0 && place < many;
        }

        boolean hasRow(int place, int length) {
            return place >= 0 && place <= many && length >= 0 && length <= many - place;
        }

        void become(int newSort, int newMany) {
            sort = newSort;
            many = newMany;
            Arrays.fill(places, 0);
        }

        void takeOver(Sheet other) {
            sort = other.sort;
            many = other.many;
            System.arraycopy(other.places, 0, places, 0, PLACE_ROOM);
        }
    }

    private static final class Slot {
        int thing = HOLDS_NOTHING;
        int kind;
        int height;
        int number;
        final Sheet row = new Sheet();
    }
}
