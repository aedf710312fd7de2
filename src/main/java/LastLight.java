/**
 * Lodgers on three stairs, whose light is paid by the last to bed. The document tells what each
 * call answers; no call throws, a call that is refused answers one of the constants below.
 */
public final class LastLight {
    public static final int BAD = -1000000001, NO = -1000000002, FULL = -1000000003, NONE = -1000000005, NOTHING = -1000000011, KIND = -1000000012, INDEX = -1000000013, SIZE = -1000000014;

    private static final int LODGERS = 10, STAIRS = 3, LAST_NIGHT = 9999, LAST_MINUTE = 599, MOST_FEAR = 300;
    private static final int TEXTS = 14, TAPE = 96, FEED = 12, WAITING = 60, SHEETS = 4, PLACES = 24, SLOTS = 5;

    // What is told of a lodger, by the numbers of told(); all but WORTH are kept.
    private static final int OF_KIND = 0, STAIR = 1, WISH = 2, CLOCK = 3, FEAR = 4, OUT = 5, PURSE = 6, READ = 7, CHINK = 8, WORTH = 9;
    private static final int KEPT = 9;
    // The least and the most that OF_KIND .. FEAR may be.
    private static final int[] LEAST = {0, 0, 0, -60, 0};
    private static final int[] MOST = {5, 2, 599, 60, 300};

    private static final int BURN = 0, FEE = 1, FINE = 2;
    private static final int LAW_ALL = 1, LAW_SECOND = 2, LAW_LOT = 3;
    private static final int HOLDS_NOTHING = 0, HOLDS_LODGER = 1, HOLDS_SHEET = 2, HOLDS_NUMBER = 3;
    private static final int MISSING = -1, SHORTS = 0, FLOATS = 1;
    // A wish that is tried is a multiple of 20.
    private static final int WISH_STEP = 20, LAST_WISH = 580;

    private final int[] tape = new int[TAPE];
    private int tapeBytes = 0;
    private final Book book = new Book();
    private final Reader reader = new Reader(tape);
    private final House now = new House(book);
    private final House image = new House(book);
    // Whatever is only thought happens in this house, so that no call needs a new one.
    private final House thought = new House(book);
    private boolean hasImage = false;
    private final Choice choice = new Choice();
    private final int[] waiting = new int[WAITING];
    private int waits = 0;
    private final Sheet[] sheets = new Sheet[SHEETS];
    private final Slot[] slots = new Slot[SLOTS];

    public LastLight() {
        for (int i = 0; i < SHEETS; i++) {
            sheets[i] = new Sheet();
        }
        for (int i = 0; i < SLOTS; i++) {
            slots[i] = new Slot();
        }
    }

    // ---- lodgers

    public int lodger(int kind, int stair, int wish) {
        if (!fits(OF_KIND, kind) || !fits(STAIR, stair) || !fits(WISH, wish)) {
            return BAD;
        }
        return now.lodgers < LODGERS ? now.takeIn(kind, stair, wish) : FULL;
    }

    public int told(int lodger, int what) {
        if (!lodges(lodger) || !within(what, OF_KIND, WORTH)) {
            return BAD;
        }
        if (what == WORTH) {
            return Kinds.worth(now.facts[OF_KIND][lodger], now.facts[WISH][lodger]);
        }
        return now.facts[what][lodger];
    }

    public int burns(int lodger, int x) {
        return lodges(lodger) && within(x, 0, 59) ? now.burnsTill(lodger, x) : BAD;
    }

    public int as(int lodger, int kind) {
        if (!lodges(lodger) || !fits(OF_KIND, kind)) {
            return BAD;
        }
        return Kinds.isOf(now.facts[OF_KIND][lodger], kind) ? now.facts[WISH][lodger] : KIND;
    }

    public int turns(int lodger, int kind) {
        return lodges(lodger) && fits(OF_KIND, kind) ? now.change(lodger, OF_KIND, kind) : BAD;
    }

    public int set(int lodger, int what, int v) {
        if (!lodges(lodger) || !within(what, STAIR, FEAR) || !fits(what, v)) {
            return BAD;
        }
        return now.change(lodger, what, v);
    }

    public int rule(int what, int v) {
        if (what == 0 && within(v, 0, LAW_LOT)) {
            int was = now.law;
            now.law = v;
            return was;
        }
        if (what == 1 && within(v, 0, 99)) {
            int was = now.price;
            now.price = v;
            return was;
        }
        return BAD;
    }

    public int deal(int n) {
        if (!within(n, 1, 10)) {
            return BAD;
        }
        int came = Math.min(n, LODGERS - now.lodgers);
        for (int i = 0; i < came; i++) {
            int kind = now.draw() % 6;
            int stair = now.draw() % STAIRS;
            int wish = now.draw() % (LAST_MINUTE + 1);
            now.takeIn(kind, stair, wish);
        }
        return came;
    }

    public int seed(int v) {
        int was = now.z;
        now.z = v;
        return was;
    }

    // ---- nights

    public int nights(int n) {
        if (!within(n, 1, 100)) {
            return BAD;
        }
        return now.passNights(Math.min(n, LAST_NIGHT - now.night));
    }

    public int house(int what) {
        if (!within(what, 0, 6)) {
            return BAD;
        }
        switch (what) {
            case 0: return now.together(OUT);
            case 1: return now.together(PURSE);
            case 2: return now.together(READ);
            case 3: return now.together(CHINK);
            default: return now.setOnStair(what - 4);
        }
    }

    public int longest() {
        int longest = NONE;
        int most = -1;
        for (int i = 0; i < now.lodgers; i++) {
            if (now.facts[OUT][i] > most) {
                most = now.facts[OUT][i];
                longest = i;
            }
        }
        return longest;
    }

    // ---- what will be

    public int behind(int n, int what) {
        if (!within(n, 0, 100) || what < 0 || (what > 2 && !lodges(what - 3))) {
            return BAD;
        }
        thought.become(now);
        thought.passNights(n);
        switch (what) {
            case 0: return thought.together(READ);
            case 1: return thought.together(PURSE);
            case 2: return thought.together(CHINK);
            default: return thought.facts[PURSE][what - 3];
        }
    }

    public int bestLaw(int n, int what) {
        if (!within(n, 1, 60) || !within(what, 0, 1)) {
            return BAD;
        }
        choice.begin();
        for (int law = 0; law <= LAW_LOT; law++) {
            thought.become(now);
            thought.law = law;
            thought.passNights(n);
            choice.offer(law, thought.together(READ));
        }
        return what == 0 ? choice.best : choice.most;
    }

    public int bedtime(int lodger, int n, int what) {
        if (!lodges(lodger) || !within(n, 1, 40) || !within(what, 0, 1)) {
            return BAD;
        }
        choice.begin();
        for (int wish = 0; wish <= LAST_WISH; wish += WISH_STEP) {
            thinkOf(lodger, WISH, wish);
            thought.passNights(n);
            choice.offer(wish, thought.facts[READ][lodger] + thought.facts[PURSE][lodger]);
        }
        return what == 0 ? choice.best : choice.most;
    }

    public int wrong(int lodger, int n, int what) {
        if (!lodges(lodger) || !within(n, 1, 40) || !within(what, 0, 1)) {
            return BAD;
        }
        choice.begin();
        // The one nearest to 0 is offered first, the one below ahead of the one above.
        for (int off = 0; off <= MOST[CLOCK]; off += 10) {
            offerPurse(lodger, CLOCK, -off, n);
            offerPurse(lodger, CLOCK, off, n);
        }
        return what == 0 ? choice.best : choice.most;
    }

    public int moved(int lodger, int n, int what) {
        if (!lodges(lodger) || !within(n, 1, 60) || !within(what, 0, 1)) {
            return BAD;
        }
        choice.begin();
        for (int stair = 0; stair < STAIRS; stair++) {
            offerPurse(lodger, STAIR, stair, n);
        }
        return what == 0 ? choice.best : choice.most;
    }

    public int dark() {
        thought.become(now);
        int half = thought.together(WISH) / 2;
        for (int n = 1; n <= 200; n++) {
            thought.passNight();
            if (thought.together(OUT) < half) {
                return n;
            }
        }
        return NONE;
    }

    public int wished(int sheet, int lodger, int what) {
        if (!isSheet(sheet) || !lodges(lodger) || !within(what, 0, 1)) {
            return BAD;
        }
        if (sheets[sheet].sort == MISSING) {
            return NOTHING;
        }
        choice.begin();
        for (int wish = 0; wish <= LAST_WISH; wish += WISH_STEP) {
            thinkOf(lodger, WISH, wish);
            choice.offer(wish, -differences(sheets[sheet], lodger));
        }
        return what == 0 ? choice.best : -choice.most;
    }

    public int fee() {
        int text = now.counts[FEE];
        return text < 0 ? now.price : book.worked(text, now.night, now.price, 0);
    }

    public int fine(int lodger) {
        if (!lodges(lodger)) {
            return BAD;
        }
        int read = now.facts[READ][lodger];
        int text = now.counts[FINE];
        return text < 0 ? read : book.worked(text, read, now.facts[CHINK][lodger], 0);
    }

    // ---- texts

    public int feed(int a, int b, int c) {
        if (tapeBytes + FEED > TAPE) {
            return FULL;
        }
        putBytes(a);
        putBytes(b);
        putBytes(c);
        return tapeBytes;
    }

    public int trim(int n) {
        if (!within(n, 0, tapeBytes)) {
            return BAD;
        }
        tapeBytes = n;
        return n;
    }

    public int text() {
        int fault = reader.faultOf(tapeBytes);
        tapeBytes = 0;
        if (fault >= 0) {
            return -100 - fault;
        }
        if (now.texts >= TEXTS) {
            return FULL;
        }
        int number = now.texts;
        book.write(number, reader);
        now.counts[reader.key] = number;
        now.texts++;
        return number;
    }

    public int textTold(int text, int what) {
        if (!within(text, 0, now.texts - 1) || !within(what, 0, 1)) {
            return BAD;
        }
        return what == 0 ? book.keys[text] : book.pieces[text];
    }

    public int why(int key) {
        if (!within(key, BURN, FINE)) {
            return BAD;
        }
        return now.counts[key] < 0 ? NONE : now.counts[key];
    }

    // ---- sheets, slots

    public int sheet(int sheet, int sort, int n) {
        if (!isSheet(sheet) || !within(sort, MISSING, FLOATS)) {
            return BAD;
        }
        if (sort == MISSING) {
            sheets[sheet].clear(MISSING, 0);
            return 0;
        }
        if (n > PLACES) {
            return BAD;
        }
        if (n < 0) {
            return SIZE;
        }
        sheets[sheet].clear(sort, n);
        return n;
    }

    public int mark(int sheet, int place, int v) {
        if (refusalOfSheet(sheet) != 0) {
            return refusalOfSheet(sheet);
        }
        Sheet marked = sheets[sheet];
        if (!marked.hasPlace(place)) {
            return INDEX;
        }
        if (marked.sort == SHORTS) {
            if (v == NONE) {
                return KIND;
            }
            marked.row[place] = (short) v;
            return 1;
        }
        if (v != NONE && !within(v, -99999, 99999)) {
            return BAD;
        }
        marked.row[place] = v;
        return 1;
    }

    public int pour(int sheet) {
        if (refusalOfSheet(sheet) != 0) {
            return refusalOfSheet(sheet);
        }
        Sheet poured = sheets[sheet];
        int otherwise = 0;
        for (int i = 0; i < now.lodgers; i++) {
            if (poured.hasNumber(i)) {
                int wish = held(poured.row[i], LAST_MINUTE);
                if (now.change(i, WISH, wish) != wish) {
                    otherwise++;
                }
            }
        }
        return otherwise;
    }

    public int reads(int sheet) {
        if (refusalOfSheet(sheet) != 0) {
            return refusalOfSheet(sheet);
        }
        Sheet read = sheets[sheet];
        for (int i = 0; i < read.places; i++) {
            if (read.hasNumber(i) && !(lodges(i) && now.facts[OUT][i] == read.row[i])) {
                return i;
            }
        }
        return NONE;
    }

    public int copy(int from, int place, int to, int at, int many) {
        if (!isSheet(from) || !isSheet(to)) {
            return BAD;
        }
        Sheet source = sheets[from];
        Sheet target = sheets[to];
        if (source.sort == MISSING || target.sort == MISSING) {
            return NOTHING;
        }
        if (source.sort != target.sort) {
            return KIND;
        }
        if (!source.hasPlaces(place, many) || !target.hasPlaces(at, many)) {
            return INDEX;
        }
        System.arraycopy(source.row, place, target.row, at, many);
        return many;
    }

    public int lay(int slot, int thing, int k) {
        if (!isSlot(slot) || !within(thing, HOLDS_NOTHING, HOLDS_NUMBER)) {
            return BAD;
        }
        if ((thing == HOLDS_LODGER && !lodges(k)) || (thing == HOLDS_SHEET && !isSheet(k))) {
            return BAD;
        }
        if (thing == HOLDS_SHEET && sheets[k].sort == MISSING) {
            return NOTHING;
        }
        Slot laid = slots[slot];
        int was = laid.thing;
        laid.thing = thing;
        if (thing == HOLDS_LODGER) {
            laid.kind = now.facts[OF_KIND][k];
            laid.wish = now.facts[WISH][k];
        } else if (thing == HOLDS_SHEET) {
            laid.sheet.become(sheets[k]);
        } else if (thing == HOLDS_NUMBER) {
            laid.number = k;
        }
        return was;
    }

    public int ask(int slot, int kind) {
        if (!fits(OF_KIND, kind)) {
            return BAD;
        }
        if (refusalOfSlot(slot, HOLDS_LODGER) != 0) {
            return refusalOfSlot(slot, HOLDS_LODGER);
        }
        Slot asked = slots[slot];
        return Kinds.isOf(asked.kind, kind) ? Kinds.worth(asked.kind, asked.wish) : KIND;
    }

    public int item(int slot, int place) {
        if (refusalOfSlot(slot, HOLDS_SHEET) != 0) {
            return refusalOfSlot(slot, HOLDS_SHEET);
        }
        Sheet laid = slots[slot].sheet;
        if (!laid.hasPlace(place)) {
            return INDEX;
        }
        return laid.hasNumber(place) ? laid.row[place] : KIND;
    }

    public int rest(int slot, int n) {
        if (refusalOfSlot(slot, HOLDS_NUMBER) != 0) {
            return refusalOfSlot(slot, HOLDS_NUMBER);
        }
        return n == 0 ? NO : slots[slot].number % n;
    }

    // ---- rows, images

    public int tell(int v) {
        if (waits >= WAITING) {
            return FULL;
        }
        waiting[waits] = v;
        waits++;
        return waits;
    }

    public int check(int n) {
        int given = waits;
        waits = 0;
        if (!within(n, 1, 30)) {
            return BAD;
        }
        if (!hasImage) {
            return NO;
        }
        thought.become(image);
        int due = 2 * Math.min(n, LAST_NIGHT - image.night);
        for (int i = 0; i < due; i++) {
            if (i % 2 == 0) {
                thought.passNight();
            }
            int right = thought.together(i % 2 == 0 ? OUT : PURSE);
            if (i >= given || waiting[i] != right) {
                return 1 + i;
            }
        }
        return given > due ? 1 + due : 0;
    }

    public int keep() {
        image.become(now);
        hasImage = true;
        return image.lodgers;
    }

    public int back() {
        if (!hasImage) {
            return NO;
        }
        now.become(image);
        return now.lodgers;
    }

    public int count(int what) {
        switch (what) {
            case 0: return now.lodgers;
            case 1: return now.night;
            case 2: return now.law;
            case 3: return now.price;
            case 4: return now.texts;
            case 5: return waits;
            case 6: return tapeBytes;
            case 7: return now.z;
            default: return BAD;
        }
    }

    // ---- what the calls share

    private static boolean within(int v, int least, int most) {
        return v >= least && v <= most;
    }

    private static int held(int v, int most) {
        return Math.max(0, Math.min(most, v));
    }

    private static boolean fits(int what, int v) {
        return within(what, OF_KIND, FEAR) && within(v, LEAST[what], MOST[what]);
    }

    private boolean lodges(int lodger) {
        return within(lodger, 0, now.lodgers - 1);
    }

    private static boolean isSheet(int sheet) {
        return within(sheet, 0, SHEETS - 1);
    }

    private static boolean isSlot(int slot) {
        return within(slot, 0, SLOTS - 1);
    }

    /** BAD or NOTHING; 0, if the sheet is there. */
    private int refusalOfSheet(int sheet) {
        if (!isSheet(sheet)) {
            return BAD;
        }
        return sheets[sheet].sort == MISSING ? NOTHING : 0;
    }

    /** BAD, NOTHING or KIND; 0, if the slot holds such a thing. */
    private int refusalOfSlot(int slot, int thing) {
        if (!isSlot(slot)) {
            return BAD;
        }
        if (slots[slot].thing == HOLDS_NOTHING) {
            return NOTHING;
        }
        return slots[slot].thing == thing ? 0 : KIND;
    }

    /** The thought house is as now, but one thing of one lodger is otherwise. */
    private void thinkOf(int lodger, int what, int v) {
        thought.become(now);
        thought.change(lodger, what, v);
    }

    /** A choice of something of a lodger, by its purse behind so many nights. */
    private void offerPurse(int lodger, int what, int v, int n) {
        thinkOf(lodger, what, v);
        thought.passNights(n);
        choice.offer(v, thought.facts[PURSE][lodger]);
    }

    /** By how much a sheet and what a lodger puts out at, in the nights to be thought, differ. */
    private int differences(Sheet sheet, int lodger) {
        int differences = 0;
        for (int i = 0; i < sheet.places; i++) {
            thought.passNight();
            if (sheet.hasNumber(i)) {
                differences += Math.abs(thought.facts[OUT][lodger] - sheet.row[i]);
            }
        }
        return differences;
    }

    private void putBytes(int four) {
        for (int shift = 24; shift >= 0 && tapeBytes < TAPE; shift -= 8) {
            tape[tapeBytes] = (four >>> shift) & 255;
            tapeBytes++;
        }
    }

    /** Of those that are offered the one that is worth most; of several the first. */
    private static final class Choice {
        boolean empty = true;
        int best = 0;
        int most = 0;

        void begin() {
            empty = true;
        }

        void offer(int one, int worth) {
            if (empty || worth > most) {
                empty = false;
                best = one;
                most = worth;
            }
        }
    }

    /** What each kind does; one that is not named does as the one above it. */
    private static final class Kinds {
        static final int STUDENT = 1, BAKER = 2, SICK = 3, INFORMER = 4, BLIND = 5;
        // The kind above each; above LODGER there is none.
        static final int[] ABOVE = {-1, 0, 0, STUDENT, BAKER, 0};

        static boolean isOf(int kind, int wanted) {
            int one = kind;
            for (int i = 0; i < ABOVE.length && one >= 0 && one < ABOVE.length; i++) {
                if (one == wanted) {
                    return true;
                }
                one = ABOVE[one];
            }
            return false;
        }

        /** Till when one burns that would burn till a minute as LODGER. */
        private static int burnsTill(int kind, int asLodger, int x) {
            switch (kind) {
                case STUDENT: return Math.min(LAST_MINUTE, asLodger + 60);
                case SICK: return x > 50 ? LAST_MINUTE : burnsTill(STUDENT, asLodger, x);
                case BAKER: return asLodger / 2;
                case INFORMER: return Math.min(LAST_MINUTE, burnsTill(BAKER, asLodger, x) + 30);
                case BLIND: return 0;
                default: return asLodger;
            }
        }

        private static int learns(int kind, boolean paid) {
            switch (kind) {
                case STUDENT: return paid ? 5 : learns(0, false);
                // Spared, it is -1 and not 1 below STUDENT: the runs under shared/tests tell.
                case SICK: return paid ? learns(STUDENT, true) : -1;
                case INFORMER: return paid ? 0 : learns(BAKER, false);
                default: return paid ? 20 : -4;
            }
        }

        private static int worth(int kind, int wish) {
            switch (kind) {
                case STUDENT: return worth(0, wish) + 5;
                case SICK: return 2 * worth(STUDENT, wish);
                case BAKER: return 99 - wish / 10;
                case INFORMER: return worth(BAKER, wish) - 9;
                case BLIND: return 1;
                default: return wish / 10;
            }
        }
    }

    /** All that an image keeps: lodgers, law, price, the night, z, and how many texts there are. */
    private static final class House {
        final Book book;
        final int[][] facts = new int[KEPT][LODGERS];
        int lodgers = 0;
        int law = 0;
        int price = 10;
        int night = 0;
        int z = 1;
        // Texts only come behind others, so those of an image are the first ones of the book.
        int texts = 0;
        final int[] counts = {-1, -1, -1};
        // Who is on the stair that is looked at, by numbers.
        final int[] on = new int[LODGERS];

        House(Book book) {
            this.book = book;
        }

        void become(House other) {
            for (int what = 0; what < KEPT; what++) {
                System.arraycopy(other.facts[what], 0, facts[what], 0, LODGERS);
            }
            System.arraycopy(other.counts, 0, counts, 0, counts.length);
            lodgers = other.lodgers;
            law = other.law;
            price = other.price;
            night = other.night;
            z = other.z;
            texts = other.texts;
        }

        int draw() {
            z = z * 1103515245 + 12345;
            return z >>> 8;
        }

        int takeIn(int kind, int stair, int wish) {
            int number = lodgers;
            for (int what = 0; what < KEPT; what++) {
                facts[what][number] = 0;
            }
            facts[OF_KIND][number] = kind;
            facts[STAIR][number] = stair;
            facts[WISH][number] = wish;
            lodgers++;
            return number;
        }

        int change(int lodger, int what, int v) {
            int was = facts[what][lodger];
            facts[what][lodger] = v;
            return was;
        }

        int together(int what) {
            int sum = 0;
            for (int i = 0; i < lodgers; i++) {
                sum += facts[what][i];
            }
            return sum;
        }

        int setOnStair(int stair) {
            int bits = 0;
            for (int i = 0; i < lodgers; i++) {
                if (facts[STAIR][i] == stair) {
                    bits |= 1 << i;
                }
            }
            return bits;
        }

        int burnsTill(int lodger, int x) {
            int wish = facts[WISH][lodger];
            int fear = facts[FEAR][lodger];
            int text = counts[BURN];
            int given = text < 0 ? wish - fear + x : book.worked(text, wish, fear, x);
            return Kinds.burnsTill(facts[OF_KIND][lodger], held(given, LAST_MINUTE), x);
        }

        int passNights(int n) {
            int paid = 0;
            for (int i = 0; i < n; i++) {
                paid += passNight();
            }
            return paid;
        }

        /** One night; what was paid in it. */
        int passNight() {
            for (int i = 0; i < lodgers; i++) {
                int out = burnsTill(i, draw() % 60);
                facts[OUT][i] = out;
                facts[READ][i] += out;
            }
            int paid = 0;
            for (int stair = 0; stair < STAIRS; stair++) {
                int many = gather(stair);
                if (many > 0) {
                    paid += settle(many);
                    lookThroughChinks(many);
                }
            }
            night++;
            return paid;
        }

        /** How many are on a stair. */
        int gather(int stair) {
            int many = 0;
            for (int i = 0; i < lodgers; i++) {
                if (facts[STAIR][i] == stair) {
                    on[many] = i;
                    many++;
                }
            }
            return many;
        }

        /** Those on the stair pay what it costs, and learn; the cost. */
        int settle(int many) {
            int burned = 0;
            for (int i = 0; i < many; i++) {
                burned += facts[OUT][on[i]];
            }
            int cost = price * burned / 100;
            int payer = payer(many);
            int each = law == LAW_ALL && many > 0 ? cost / many : 0;
            for (int i = 0; i < many; i++) {
                int one = on[i];
                facts[PURSE][one] -= one == payer ? cost - each * (many - 1) : each;
                boolean paid = cost > 0 && (law == LAW_ALL || one == payer);
                int learned = Kinds.learns(facts[OF_KIND][one], paid);
                facts[FEAR][one] = held(facts[FEAR][one] + learned, MOST_FEAR);
            }
            return cost;
        }

        /** Who pays; by the law of all, who pays what is left over. */
        int payer(int many) {
            if (law == LAW_LOT && many > 0) {
                return on[draw() % many];
            }
            int last = lastBut(many, -1);
            return law == LAW_SECOND && many > 1 ? lastBut(many, last) : last;
        }

        /** The one that puts out last by its own clock, but for one that does not count. */
        int lastBut(int many, int left) {
            int last = -1;
            int latest = 0;
            for (int i = 0; i < many; i++) {
                int one = on[i];
                int minute = facts[OUT][one] + facts[CLOCK][one];
                if (one != left && (last < 0 || minute >= latest)) {
                    last = one;
                    latest = minute;
                }
            }
            return last;
        }

        void lookThroughChinks(int many) {
            for (int i = 0; i < many; i++) {
                int next = on[i + 1 < many ? i + 1 : 0];
                int above = facts[OUT][next] - facts[OUT][on[i]];
                facts[CHINK][on[i]] += Math.max(0, above);
            }
        }
    }

    /** Texts, each as a row of steps: numbers and names put a value, signs join those put last. */
    private static final class Book {
        // A step below NAME is a number itself; a name is NAME and its place, a sign SIGN and its byte.
        static final int NAME = 10000, SIGN = 20000;
        final int[] keys = new int[TEXTS];
        final int[] pieces = new int[TEXTS];
        final int[] sizes = new int[TEXTS];
        final int[][] steps = new int[TEXTS][TAPE];
        final int[] stack = new int[TAPE];

        void write(int text, Reader read) {
            keys[text] = read.key;
            pieces[text] = read.pieces;
            sizes[text] = read.size;
            System.arraycopy(read.steps, 0, steps[text], 0, read.size);
        }

        /** What a text gives, if its names are a, b, c. */
        int worked(int text, int a, int b, int c) {
            int top = 0;
            for (int i = 0; i < sizes[text]; i++) {
                int step = steps[text][i];
                if (step < NAME && top < stack.length) {
                    stack[top] = step;
                    top++;
                } else if (step < SIGN && top < stack.length) {
                    stack[top] = step == NAME ? a : step == NAME + 1 ? b : c;
                    top++;
                } else if (step == SIGN + '!' && top > 0) {
                    stack[top - 1] = stack[top - 1] == 0 ? 1 : 0;
                } else if (top > 1) {
                    top--;
                    stack[top - 1] = joined(step - SIGN, stack[top - 1], stack[top]);
                }
            }
            return stack[0];
        }

        static int joined(int sign, int left, int right) {
            switch (sign) {
                case '|': return left != 0 || right != 0 ? 1 : 0;
                case '&': return left != 0 && right != 0 ? 1 : 0;
                case '<': return left < right ? 1 : 0;
                case '=': return left == right ? 1 : 0;
                case '>': return left > right ? 1 : 0;
                case '+': return left + right;
                case '-': return left - right;
                case '*': return left * right;
                default: return right == 0 ? 0 : left / right;
            }
        }
    }

    /** Reads the tape as a text, word by word, up to its first fault. */
    private static final class Reader {
        static final int END = 0, LETTERS = 1, DIGITS = 2, OTHER = 3, MISFIT = 4;
        static final int TEST = 2, PIECE = 5, MOST_OPEN = 8, MOST_DIGITS = 4;
        final int[] tape;
        int bytes = 0;
        // The word or sign that is looked at: its sort, its first byte, the byte behind it.
        int sort = END;
        int start = 0;
        int end = 0;
        int fault = -1;
        // What has been read: how many steps, of these how many are numbers and names.
        int key = BURN;
        String names = "";
        final int[] steps = new int[TAPE];
        int size = 0;
        int pieces = 0;

        Reader(int[] tape) {
            this.tape = tape;
        }

        /** The place of the fault in the first bytes of the tape; below 0, if there is none. */
        int faultOf(int many) {
            bytes = Math.min(many, tape.length);
            end = 0;
            sort = END;
            fault = -1;
            size = 0;
            pieces = 0;
            advance();
            readKey();
            if (fault < 0) {
                readLevel(0, 0, 0);
            }
            if (fault < 0 && sort != END) {
                fail();
            }
            return fault;
        }

        void readKey() {
            if (isWord("burn")) {
                key = BURN;
                names = "wfx";
            } else if (isWord("fee")) {
                key = FEE;
                names = "np";
            } else if (isWord("fine")) {
                key = FINE;
                names = "rc";
            } else {
                fail();
                return;
            }
            advance();
        }

        /** Levels from the loosest: 0 OR, 1 AND, 2 TEST, 3 SUM, 4 TERM, 5 PIECE. */
        private void readLevel(int level, int parens, int nots) {
            if (level >= PIECE) {
                readPiece(parens, nots);
                return;
            }
            readLevel(level + 1, parens, nots);
            int most = level == TEST ? 1 : TAPE;
            for (int i = 0; i < most && fault < 0 && isSignOf(signsOf(level)); i++) {
                int sign = tape[start];
                advance();
                readLevel(level + 1, parens, nots);
                put(Book.SIGN + sign);
            }
        }

        static String signsOf(int level) {
            switch (level) {
                case 0: return "|";
                case 1: return "&";
                case 2: return "<=>";
                case 3: return "+-";
                default: return "*/";
            }
        }

        private void readPiece(int parens, int nots) {
            if (sort == DIGITS && end - start <= MOST_DIGITS) {
                putPiece(number());
            } else if (sort == LETTERS && end - start == 1 && names.indexOf((char) tape[start]) >= 0) {
                putPiece(Book.NAME + names.indexOf((char) tape[start]));
            } else if (isSignOf("!") && nots < MOST_OPEN) {
                advance();
                readPiece(parens, nots + 1);
                put(Book.SIGN + '!');
            } else if (isSignOf("(") && parens < MOST_OPEN) {
                advance();
                readLevel(0, parens + 1, nots);
                close();
            } else {
                fail();
            }
        }

        void close() {
            if (fault < 0 && isSignOf(")")) {
                advance();
            } else {
                fail();
            }
        }

        int number() {
            int value = 0;
            for (int i = start; i < end; i++) {
                value = value * 10 + tape[i] - '0';
            }
            return value;
        }

        void putPiece(int step) {
            put(step);
            pieces++;
            advance();
        }

        void put(int step) {
            if (size < steps.length) {
                steps[size] = step;
                size++;
            }
        }

        /** The first fault counts: what is refused behind it is no other one. */
        void fail() {
            if (fault < 0) {
                fault = start;
            }
        }

        boolean isSignOf(String signs) {
            return sort == OTHER && signs.indexOf((char) tape[start]) >= 0;
        }

        boolean isWord(String word) {
            if (sort != LETTERS || end - start != word.length()) {
                return false;
            }
            for (int i = 0; i < word.length(); i++) {
                if (tape[start + i] != word.charAt(i)) {
                    return false;
                }
            }
            return true;
        }

        /** Goes on to the next word or sign; a word right behind a word is a misfit. */
        void advance() {
            boolean behindWord = sort == LETTERS || sort == DIGITS;
            int before = end;
            start = end;
            while (start < bytes && tape[start] == ' ') {
                start++;
            }
            sort = start < bytes ? sortOf(tape[start]) : END;
            end = Math.min(start + 1, bytes);
            if (sort == LETTERS || sort == DIGITS) {
                while (end < bytes && sortOf(tape[end]) == sort) {
                    end++;
                }
                if (behindWord && start == before) {
                    sort = MISFIT;
                }
            }
        }

        static int sortOf(int b) {
            if (b >= 'a' && b <= 'z') {
                return LETTERS;
            }
            return b >= '0' && b <= '9' ? DIGITS : OTHER;
        }
    }

    /** A row of shorts or floats, or missing; NONE at a place is no number. */
    private static final class Sheet {
        int sort = MISSING;
        int places = 0;
        final int[] row = new int[PLACES];

        void clear(int newSort, int n) {
            sort = newSort;
            places = n;
            for (int i = 0; i < PLACES; i++) {
                row[i] = 0;
            }
        }

        void become(Sheet other) {
            sort = other.sort;
            places = other.places;
            System.arraycopy(other.row, 0, row, 0, PLACES);
        }

        boolean hasPlace(int place) {
            return place >= 0 && place < places;
        }

        boolean hasNumber(int place) {
            return hasPlace(place) && row[place] != NONE;
        }

        boolean hasPlaces(int from, int many) {
            return from >= 0 && many >= 0 && from <= places && many <= places - from;
        }
    }

    /** Holds nothing, what a lodger's worth needs, a sheet of its own, or a number. */
    private static final class Slot {
        int thing = HOLDS_NOTHING;
        int kind = 0;
        int wish = 0;
        int number = 0;
        final Sheet sheet = new Sheet();
    }
}
