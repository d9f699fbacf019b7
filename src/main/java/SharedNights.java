/** A great glass whose nights are shared by plans of lands; ../shared/DOC.md is its document. */
public final class SharedNights {
    public static final int NONE = -1, UNKNOWN = -2, OUTSIDE = -3, NOT = -4, FULL = -5;

    private static final int LEAST_SLOTS = 4, MOST_SLOTS = 12, SLOTS_AT_FIRST = 10;
    private static final int LAST_NIGHT = 300;
    private static final int MOST_TARGETS = 8, MOST_MERIDIAN = 40, MOST_REACH = 8;
    private static final int MOST_WORLDS = 4, MOST_WEIGHT = 9;
    private static final int MOST_PLANS = 5, MOST_STEPS = 3, MOST_WORTH = 99;
    private static final int MOST_BYTES = 160, BYTES_AT_ONCE = 8;
    private static final int LANDS = 4, INSTRUMENTS = 3, REGIONS = 4, RULES = 3, MOST_SHARE = 20;
    private static final int MOST_STEP_SLOTS = 4, MOST_STEP_SEEING = 3, MOST_STEP_AIR = 8;
    private static final int MOST_WAIT = 6, WAIT_BREADTH = 3;

    private static final int FORECAST = 0, TRUE_SKY = 1, FIRST_WORLD = 2;
    private static final int SHUT = 4;

    private static final int DONE = 8, LOST = 9;
    private static final int LOG_SPOILT = 10, LOG_CHANGE = 20, LOG_SHUT = 21, LOG_IDLE = 22;

    private static final int ACCOUNTS = 8, CHANGE_ACCOUNT = 4, SHUT_ACCOUNT = 5, IDLE_ACCOUNT = 6, CLOCK = 7;

    private final Night night;
    private final Form form;
    private final Book book;
    private final BestNight bestNight;
    private final Watch watching;
    private final Ledger ledger;
    private final Step alertStep;

    public SharedNights() {
        night = new Night();
        form = new Form();
        book = new Book();
        bestNight = new BestNight(night, book);
        watching = new Watch(night, book);
        ledger = new Ledger();
        alertStep = new Step();
    }

    // ---- nights, skies, targets

    public int slots(int n) {
        if (n < LEAST_SLOTS || n > MOST_SLOTS) {
            return OUTSIDE;
        }
        int was = night.slotCount;
        night.slotCount = n;
        night.clearSky();
        night.worldCount = 0;
        bestNight.forget();
        return was;
    }

    public int target(int meridian, int reach, int region) {
        if (!within(meridian, 0, MOST_MERIDIAN) || !within(reach, 0, MOST_REACH)
                || !within(region, 0, REGIONS - 1)) {
            return OUTSIDE;
        }
        if (night.targetCount >= MOST_TARGETS) {
            return FULL;
        }
        return night.addTarget(meridian, reach, region);
    }

    public int air(int target, int slot) {
        if (!night.hasTarget(target) || !night.hasSlot(slot)) {
            return UNKNOWN;
        }
        Target seen = night.targets[target];
        return night.isVisible(seen, slot) ? night.airOf(seen, slot) : NONE;
    }

    public int moon(int region, int from, int to) {
        if (!within(region, 0, REGIONS - 1) || !night.hasSlot(from) || !night.hasSlot(to) || from > to) {
            return OUTSIDE;
        }
        night.moonRegion = region;
        night.moonFrom = from;
        night.moonTo = to;
        bestNight.forget();
        return 1;
    }

    public int seeing(int sky, int slot, int v) {
        if (!night.hasSky(sky) || !night.hasSlot(slot)) {
            return UNKNOWN;
        }
        if (!within(v, 0, SHUT)) {
            return OUTSIDE;
        }
        int was = night.skies[sky][slot];
        night.skies[sky][slot] = v;
        bestNight.forget();
        return was;
    }

    public int world(int weight) {
        if (!within(weight, 1, MOST_WEIGHT)) {
            return OUTSIDE;
        }
        if (night.worldCount >= MOST_WORLDS) {
            return FULL;
        }
        return night.addWorld(weight);
    }

    public int unworld() {
        int were = night.worldCount;
        night.worldCount = 0;
        return were;
    }

    // ---- texts, plans

    public int write(long bytes, int n) {
        if (!within(n, 1, BYTES_AT_ONCE)) {
            return OUTSIDE;
        }
        if (form.size + n > MOST_BYTES) {
            return FULL;
        }
        form.append(bytes, n);
        return form.size;
    }

    public int erase() {
        int had = form.size;
        form.size = 0;
        return had;
    }

    public int fault() {
        form.read(night.targetCount);
        return form.faultAt;
    }

    public int stands() {
        form.read(night.targetCount);
        return form.canStand;
    }

    public int plan() {
        form.read(night.targetCount);
        if (form.faultAt != NONE) {
            return NOT;
        }
        if (book.count >= MOST_PLANS) {
            return FULL;
        }
        form.draft = book.add(form.draft);
        form.size = 0;
        bestNight.forget();
        return book.count - 1;
    }

    public int drop(int plan) {
        if (!book.has(plan)) {
            return UNKNOWN;
        }
        book.remove(plan);
        bestNight.forget();
        return 1;
    }

    public int told(int plan, int what) {
        if (!book.has(plan)) {
            return UNKNOWN;
        }
        Plan asked = book.plans[plan];
        if (within(what, 0, 4)) {
            return asked.headFact(what);
        }
        int step = what / 10 - 1;
        int fact = what % 10;
        // STEP 0 has no wait ahead of it, so its facts end with dark.
        if (!within(what, 10, 39) || fact > (step == 0 ? 3 : 5)) {
            return OUTSIDE;
        }
        return step < asked.stepCount ? asked.steps[step].fact(fact) : NONE;
    }

    public int worth(int plan, int v) {
        if (!book.has(plan)) {
            return UNKNOWN;
        }
        if (!within(v, 1, MOST_WORTH)) {
            return OUTSIDE;
        }
        int was = book.plans[plan].worth;
        book.plans[plan].worth = v;
        bestNight.forget();
        return was;
    }

    // ---- the best night

    public int placements(int plan) {
        if (!book.has(plan)) {
            return UNKNOWN;
        }
        bestNight.refresh();
        return bestNight.counts[plan];
    }

    public int placement(int plan, int k) {
        if (!book.has(plan)) {
            return UNKNOWN;
        }
        bestNight.refresh();
        return within(k, 0, bestNight.counts[plan] - 1) ? bestNight.masks[plan][k] : OUTSIDE;
    }

    public int best(int what) {
        if (!within(what, 0, 1)) {
            return OUTSIDE;
        }
        bestNight.refresh();
        return what == 0 ? bestNight.bestWorth() : bestNight.bestSlots();
    }

    public int placed(int plan) {
        if (!book.has(plan)) {
            return UNKNOWN;
        }
        bestNight.refresh();
        return bestNight.placeOf(plan);
    }

    public int price(int plan) {
        if (!book.has(plan)) {
            return UNKNOWN;
        }
        bestNight.refresh();
        return bestNight.priceOf(plan);
    }

    public int empty(int slot) {
        if (!night.hasSlot(slot)) {
            return UNKNOWN;
        }
        bestNight.refresh();
        return bestNight.whyEmpty(slot);
    }

    // ---- watches, worlds

    public int again(int v) {
        if (!within(v, 0, 1)) {
            return OUTSIDE;
        }
        int was = watching.again;
        watching.again = v;
        return was;
    }

    public int watch(int rule, int sky) {
        if (!night.hasSky(sky)) {
            return UNKNOWN;
        }
        if (!isRule(rule)) {
            return OUTSIDE;
        }
        watching.run(rule, sky, night.slotCount);
        return watching.scoreNow();
    }

    public int log(int rule, int sky, int slot) {
        if (!night.hasSky(sky) || !night.hasSlot(slot)) {
            return UNKNOWN;
        }
        if (!isRule(rule)) {
            return OUTSIDE;
        }
        watching.run(rule, sky, slot + 1);
        return watching.entries[slot];
    }

    public int state(int rule, int sky, int plan, int n) {
        if (!night.hasSky(sky) || !book.has(plan)) {
            return UNKNOWN;
        }
        if (!isRule(rule) || !within(n, 0, night.slotCount)) {
            return OUTSIDE;
        }
        watching.run(rule, sky, n);
        return watching.states[plan];
    }

    public int value(int rule, int part) {
        if (!isRule(rule) || !within(part, 0, 1)) {
            return OUTSIDE;
        }
        if (night.worldCount == 0) {
            return NONE;
        }
        int above = weighedScore(rule);
        int below = night.allWeights();
        int common = commonDivisor(above, below);
        if (common == 0) {
            return NONE;
        }
        return (part == 0 ? above : below) / common;
    }

    public int sure(int rule) {
        if (!isRule(rule)) {
            return OUTSIDE;
        }
        int least = NONE;
        for (int w = 0; w < night.worldCount; w++) {
            watching.run(rule, FIRST_WORLD + w, night.slotCount);
            int score = watching.scoreNow();
            if (least == NONE || score < least) {
                least = score;
            }
        }
        return least;
    }

    public int rule() {
        if (night.worldCount == 0) {
            return NONE;
        }
        int bestRule = 0;
        int most = weighedScore(0);
        for (int r = 1; r < RULES; r++) {
            int score = weighedScore(r);
            if (score > most) {
                bestRule = r;
                most = score;
            }
        }
        return bestRule;
    }

    // ---- alerts

    public int alert(int target, int instrument, int needs, int from, int to, int what) {
        if (!night.hasTarget(target)) {
            return UNKNOWN;
        }
        if (!within(instrument, 0, INSTRUMENTS - 1) || !readNeeds(needs) || !night.hasSlot(from)
                || !night.hasSlot(to) || from > to || !within(what, 0, 1)) {
            return OUTSIDE;
        }
        bestNight.refresh();
        bestNight.seekBegin(target, instrument, alertStep, from, to);
        return what == 0 ? bestNight.foundBegin : bestNight.foundLoss;
    }

    // ---- accounts

    public int share(int land, int v) {
        if (!within(land, 0, LANDS - 1)) {
            return UNKNOWN;
        }
        if (!within(v, 1, MOST_SHARE)) {
            return OUTSIDE;
        }
        int was = ledger.shares[land];
        ledger.shares[land] = v;
        return was;
    }

    public int close(int rule) {
        if (!isRule(rule)) {
            return OUTSIDE;
        }
        if (night.tonight >= LAST_NIGHT) {
            return NOT;
        }
        watching.run(rule, TRUE_SKY, night.slotCount);
        int score = watching.scoreNow();
        ledger.doneWorth += score;
        enterLog();
        removeDonePlans();
        night.tonight++;
        night.clearSky();
        bestNight.forget();
        return score;
    }

    public int account(int what) {
        return within(what, 0, ACCOUNTS - 1) ? ledger.sums[what] : OUTSIDE;
    }

    public int debt(int land) {
        return within(land, 0, LANDS - 1) ? ledger.debtOf(land) : Integer.MIN_VALUE;
    }

    public int next() {
        return ledger.deepestInDebt();
    }

    public int count(int what) {
        switch (what) {
            case 0: return night.slotCount;
            case 1: return night.tonight;
            case 2: return night.targetCount;
            case 3: return book.count;
            case 4: return night.worldCount;
            case 5: return form.size;
            case 6: return ledger.doneWorth;
            default: return OUTSIDE;
        }
    }

    // ---- helpers

    private static boolean within(int v, int least, int most) {
        return v >= least && v <= most;
    }

    private static boolean isRule(int rule) {
        return within(rule, 0, RULES - 1);
    }

    private static boolean hasBit(int bits, int i) {
        return (bits >> i & 1) == 1;
    }

    /** The SLOTS from .. from + length - 1, by bits. */
    private static int slotBits(int from, int length) {
        return ((1 << length) - 1) << from;
    }

    private static int commonDivisor(int a, int b) {
        // Euclid's remainders halve every second time: 64 rounds are enough for any two ints.
        for (int i = 0; i < 64 && b != 0; i++) {
            int rest = a % b;
            a = b;
            b = rest;
        }
        return a;
    }

    private int weighedScore(int rule) {
        int sum = 0;
        for (int w = 0; w < night.worldCount; w++) {
            watching.run(rule, FIRST_WORLD + w, night.slotCount);
            sum += night.weights[w] * watching.scoreNow();
        }
        return sum;
    }

    /** Takes the needs of an ALERT apart; false if one of them is out of its bounds. */
    private boolean readNeeds(int needs) {
        int dark = needs % 10;
        alertStep.slotsLong = needs / 1000;
        alertStep.seeingMost = needs / 100 % 10;
        alertStep.airMost = needs / 10 % 10;
        alertStep.dark = dark == 1;
        return needs >= 0 && within(alertStep.slotsLong, 1, MOST_STEP_SLOTS)
                && within(alertStep.seeingMost, 0, MOST_STEP_SEEING)
                && within(alertStep.airMost, 0, MOST_STEP_AIR) && within(dark, 0, 1);
    }

    private void enterLog() {
        for (int s = 0; s < night.slotCount; s++) {
            int plan = watching.planIn(s);
            int entry = watching.entries[s];
            if (plan != NONE) {
                ledger.enter(book.plans[plan].land);
            } else if (entry == LOG_CHANGE) {
                ledger.enter(CHANGE_ACCOUNT);
            } else {
                ledger.enter(entry == LOG_SHUT ? SHUT_ACCOUNT : IDLE_ACCOUNT);
            }
        }
    }

    private void removeDonePlans() {
        // From the last one on, so that the numbers still to be looked at stay as the WATCH knows them.
        for (int plan = book.count - 1; plan >= 0; plan--) {
            if (watching.states[plan] == DONE) {
                book.remove(plan);
            }
        }
    }

    private static final class Target {
        int meridian;
        int reach;
        int region;
    }

    private static final class Step {
        int slotsLong;
        int seeingMost;
        int airMost;
        boolean dark;
        int waitLeast;
        int waitMost;

        /** By the last digit of what told() is asked. */
        int fact(int digit) {
            switch (digit) {
                case 0: return slotsLong;
                case 1: return seeingMost;
                case 2: return airMost;
                case 3: return dark ? 1 : 0;
                case 4: return waitLeast;
                default: return waitMost;
            }
        }
    }

    private static final class Plan {
        int land;
        int instrument;
        int targetNumber;
        int worth;
        int stepCount;
        final Step[] steps = new Step[MOST_STEPS];

        Plan() {
            for (int j = 0; j < MOST_STEPS; j++) {
                steps[j] = new Step();
            }
        }

        int headFact(int what) {
            switch (what) {
                case 0: return land;
                case 1: return instrument;
                case 2: return targetNumber;
                case 3: return worth;
                default: return stepCount;
            }
        }

        int slotsInAll() {
            int sum = 0;
            for (int j = 0; j < stepCount; j++) {
                sum += steps[j].slotsLong;
            }
            return sum;
        }
    }

    /** The PLANS. Places behind the last one hold spare objects, so that no call makes new ones. */
    private static final class Book {
        final Plan[] plans = new Plan[MOST_PLANS];
        int count;

        Book() {
            for (int i = 0; i < MOST_PLANS; i++) {
                plans[i] = new Plan();
            }
        }

        boolean has(int plan) {
            return plan >= 0 && plan < count;
        }

        /** Takes a PLAN in, if there is room, and gives a spare object for it. */
        Plan add(Plan plan) {
            if (count >= MOST_PLANS) {
                return plan;
            }
            Plan spare = plans[count];
            plans[count] = plan;
            count++;
            return spare;
        }

        void remove(int plan) {
            if (!has(plan)) {
                return;
            }
            Plan gone = plans[plan];
            for (int i = plan; i + 1 < count; i++) {
                plans[i] = plans[i + 1];
            }
            count--;
            plans[count] = gone;
        }
    }

    /** TONIGHT: its SLOTS, TARGETS, MOON and SKIES. */
    private static final class Night {
        int slotCount = SLOTS_AT_FIRST;
        int tonight;
        final Target[] targets = new Target[MOST_TARGETS];
        int targetCount;
        int moonRegion;
        int moonFrom;
        int moonTo;
        final int[][] skies = new int[FIRST_WORLD + MOST_WORLDS][MOST_SLOTS];
        final int[] weights = new int[MOST_WORLDS];
        int worldCount;

        Night() {
            for (int t = 0; t < MOST_TARGETS; t++) {
                targets[t] = new Target();
            }
            clearSky();
        }

        void clearSky() {
            moonRegion = NONE;
            for (int s = 0; s < MOST_SLOTS; s++) {
                skies[FORECAST][s] = 1;
                skies[TRUE_SKY][s] = 1;
            }
        }

        boolean hasSlot(int slot) {
            return slot >= 0 && slot < slotCount;
        }

        boolean hasTarget(int target) {
            return target >= 0 && target < targetCount;
        }

        boolean hasSky(int sky) {
            return sky >= 0 && sky < FIRST_WORLD + worldCount;
        }

        int addTarget(int meridian, int reach, int region) {
            Target added = targets[targetCount];
            added.meridian = meridian;
            added.reach = reach;
            added.region = region;
            targetCount++;
            return targetCount - 1;
        }

        int addWorld(int weight) {
            weights[worldCount] = weight;
            for (int s = 0; s < MOST_SLOTS; s++) {
                skies[FIRST_WORLD + worldCount][s] = skies[FORECAST][s];
            }
            worldCount++;
            return worldCount - 1;
        }

        int allWeights() {
            int sum = 0;
            for (int w = 0; w < worldCount; w++) {
                sum += weights[w];
            }
            return sum;
        }

        int airOf(Target target, int slot) {
            return Math.abs(slot - (target.meridian - tonight));
        }

        boolean isVisible(Target target, int slot) {
            return airOf(target, slot) <= target.reach;
        }

        /** The last SLOT in which a TARGET is VISIBLE that is so in some SLOT. */
        int lastVisible(Target target) {
            return Math.min(slotCount - 1, target.meridian - tonight + target.reach);
        }

        boolean isBright(Target target, int slot) {
            return target.region == moonRegion && slot >= moonFrom && slot <= moonTo;
        }

        boolean fitsAlone(int sky, Target target, Step step, int slot) {
            int seen = skies[sky][slot];
            int air = airOf(target, slot);
            return seen <= step.seeingMost && seen != SHUT && air <= target.reach && air <= step.airMost
                    && !(step.dark && isBright(target, slot));
        }

        /** The SLOTS in which a STEP can begin so that it FITS by FORECAST, by bits. */
        int fittingBegins(Target target, Step step) {
            int alone = 0;
            for (int s = 0; s < slotCount; s++) {
                if (fitsAlone(FORECAST, target, step, s)) {
                    alone |= 1 << s;
                }
            }
            int begins = alone;
            for (int i = 1; i < step.slotsLong; i++) {
                begins &= alone >> i;
            }
            return begins;
        }
    }

    /** THE TEXT, and its reading as a PLAN up to the first FAULT. */
    private static final class Form {
        private static final int WORD_TOKEN = 0, NUMBER_TOKEN = 1, SIGN_TOKEN = 2, END_TOKEN = 3, WRONG_TOKEN = 4;
        private static final int CAN_WORD = 1, CAN_NUMBER = 2, CAN_SIGN = 4, CAN_END = 8, CAN_DARK = 16;
        private static final int COLON = 58, COMMA = 44, BLANK = 32;

        // The places of the form, in their order: each word is followed by its number.
        private static final int LAND_WORD = 0, LAND = 1, WITH_WORD = 2, INSTRUMENT = 3, AT_WORD = 4, TARGET = 5,
                WORTH_WORD = 6, WORTH = 7, HEAD_END = 8, EXPOSE_WORD = 9, LENGTH = 10, SEEING_WORD = 11,
                SEEING = 12, AIR_WORD = 13, AIR = 14, STEP_END = 15, DARK_END = 16, WAIT_WORD = 17, LEAST_WAIT = 18,
                TO_WORD = 19, MOST_WAITED = 20, WAIT_END = 21;

        private final int[] text = new int[MOST_BYTES];
        int size;
        Plan draft = new Plan();
        int faultAt;
        int canStand;
        private int tokenKind;
        private int tokenBegin;
        private int tokenEnd;
        private int number;
        private int place;
        private int step;

        void append(long bytes, int n) {
            for (int i = 0; i < n && size < MOST_BYTES; i++) {
                text[size] = (int) (bytes >> 8 * i & 255);
                size++;
            }
        }

        void read(int targetCount) {
            faultAt = NONE;
            canStand = 0;
            tokenEnd = 0;
            place = LAND_WORD;
            step = 0;
            // Each token but the end has at least one byte.
            for (int i = 0; i <= MOST_BYTES; i++) {
                readToken();
                if (!takeToken(targetCount)) {
                    faultAt = tokenBegin;
                    canStand = whatCanStand();
                    return;
                }
                if (tokenKind == END_TOKEN) {
                    draft.stepCount = step + 1;
                    return;
                }
            }
        }

        private void readToken() {
            int at = tokenEnd;
            while (at < size && text[at] == BLANK) {
                at++;
            }
            tokenBegin = at;
            if (at >= size) {
                tokenEnd = at;
                tokenKind = END_TOKEN;
            } else if (isLetter(text[at])) {
                readWord();
            } else if (isDigit(text[at])) {
                readNumber();
            } else {
                tokenEnd = at + 1;
                tokenKind = text[at] == COLON || text[at] == COMMA ? SIGN_TOKEN : WRONG_TOKEN;
            }
        }

        private void readWord() {
            int at = tokenBegin;
            while (at < size && isLetter(text[at])) {
                at++;
            }
            tokenEnd = at;
            tokenKind = WORD_TOKEN;
        }

        private void readNumber() {
            int at = tokenBegin;
            number = 0;
            while (at < size && isDigit(text[at])) {
                number = number * 10 + text[at] - '0';
                at++;
            }
            tokenEnd = at;
            tokenKind = at - tokenBegin > 2 ? WRONG_TOKEN : NUMBER_TOKEN;
        }

        private static boolean isLetter(int b) {
            return b >= 'a' && b <= 'z';
        }

        private static boolean isDigit(int b) {
            return b >= '0' && b <= '9';
        }

        /** Goes on behind the token, if it can stand at this place of the form. */
        private boolean takeToken(int targetCount) {
            switch (tokenKind) {
                case WORD_TOKEN: return takeWord();
                case NUMBER_TOKEN: return takeNumber(targetCount);
                case SIGN_TOKEN: return takeSign();
                case END_TOKEN: return place == STEP_END || place == DARK_END;
                default: return false;
            }
        }

        private boolean takeWord() {
            if (!tokenIs(wordAt(place))) {
                return false;
            }
            if (place == STEP_END) {
                draft.steps[step].dark = true;
            }
            place++;
            return true;
        }

        private boolean takeNumber(int targetCount) {
            if (!isNumberPlace(place) || number < leastNumber() || number > mostNumber(targetCount)) {
                return false;
            }
            keepNumber();
            place++;
            return true;
        }

        private boolean takeSign() {
            int sign = text[tokenBegin];
            if (place == HEAD_END && sign == COLON || place == WAIT_END && sign == COMMA) {
                place = EXPOSE_WORD;
                return true;
            }
            if ((place == STEP_END || place == DARK_END) && sign == COMMA && step + 1 < MOST_STEPS) {
                step++;
                place = WAIT_WORD;
                return true;
            }
            return false;
        }

        private boolean tokenIs(String word) {
            int length = tokenEnd - tokenBegin;
            if (length != word.length()) {
                return false;
            }
            for (int i = 0; i < length; i++) {
                if (text[tokenBegin + i] != word.charAt(i)) {
                    return false;
                }
            }
            return true;
        }

        /** The word that can stand at a place; empty, as no token is, where none can. */
        private static String wordAt(int place) {
            switch (place) {
                case LAND_WORD: return "land";
                case WITH_WORD: return "with";
                case AT_WORD: return "at";
                case WORTH_WORD: return "worth";
                case EXPOSE_WORD: return "expose";
                case SEEING_WORD: return "seeing";
                case AIR_WORD: return "air";
                case STEP_END: return "dark";
                case WAIT_WORD: return "wait";
                case TO_WORD: return "to";
                default: return "";
            }
        }

        private static boolean isNumberPlace(int place) {
            switch (place) {
                case LAND: case INSTRUMENT: case TARGET: case WORTH: case LENGTH: case SEEING: case AIR:
                case LEAST_WAIT: case MOST_WAITED:
                    return true;
                default:
                    return false;
            }
        }

        private int leastNumber() {
            switch (place) {
                case WORTH: case LENGTH: return 1;
                case MOST_WAITED: return draft.steps[step].waitLeast;
                default: return 0;
            }
        }

        private int mostNumber(int targetCount) {
            switch (place) {
                case LAND: return LANDS - 1;
                case INSTRUMENT: return INSTRUMENTS - 1;
                case TARGET: return targetCount - 1;
                case WORTH: return MOST_WORTH;
                case LENGTH: return MOST_STEP_SLOTS;
                case SEEING: return MOST_STEP_SEEING;
                case AIR: return MOST_STEP_AIR;
                case LEAST_WAIT: return MOST_WAIT;
                default: return draft.steps[step].waitLeast + WAIT_BREADTH;
            }
        }

        private void keepNumber() {
            Step told = draft.steps[step];
            switch (place) {
                case LAND: draft.land = number; break;
                case INSTRUMENT: draft.instrument = number; break;
                case TARGET: draft.targetNumber = number; break;
                case WORTH: draft.worth = number; break;
                case LENGTH: told.slotsLong = number; break;
                case SEEING: told.seeingMost = number; break;
                case AIR:
                    told.airMost = number;
                    // The draft may hold an older reading: only a word to come makes this STEP dark.
                    told.dark = false;
                    break;
                case LEAST_WAIT: told.waitLeast = number; break;
                default: told.waitMost = number; break;
            }
        }

        private int whatCanStand() {
            int sign = step + 1 < MOST_STEPS ? CAN_SIGN : 0;
            switch (place) {
                case HEAD_END: case WAIT_END: return CAN_SIGN;
                case STEP_END: return CAN_DARK | CAN_END | sign;
                case DARK_END: return CAN_END | sign;
                default: return isNumberPlace(place) ? CAN_NUMBER : CAN_WORD;
            }
        }
    }

    /**
     * PLACEMENTS of all PLANS, and BEST NIGHT. SETS of PLANS are numbered by bits. WORTH and SLOTS of a set are the
     * same however its PLANS are placed, so of each set only its first PLACEMENTS need be known.
     */
    private static final class BestNight {
        private static final int SETS = 1 << MOST_PLANS;
        // Three STEPS of one SLOT, waits 0 to 3, twelve SLOTS: no PLAN has more PLACEMENTS than that one.
        private static final int MOST_PLACEMENTS = 112;
        // Behind all PLACEMENTS, as BEST NIGHT orders it.
        private static final int ABSENT = MOST_PLACEMENTS;
        // A row of SLOTS, and the one beside them, for each INSTRUMENT side by side in a long.
        private static final int ROW_BITS = 16;
        private static final long ROW = (1L << ROW_BITS) - 1;
        private static final int AGE_SHIFT = INSTRUMENTS * ROW_BITS + MOST_PLANS;
        private static final int MEMORY_BITS = 10;
        private static final long SCATTER = 0x9E3779B97F4A7C15L;

        final int[][] masks = new int[MOST_PLANS][MOST_PLACEMENTS];
        final int[] counts = new int[MOST_PLANS];
        int foundBegin;
        int foundLoss;
        private final Night night;
        private final Book book;
        private final int[] begins = new int[MOST_STEPS];
        // The SLOTS that any PLACEMENT of a PLAN has.
        private final int[] reached = new int[MOST_PLANS];
        private final int[] chosen = new int[MOST_PLANS];
        private final boolean[] able = new boolean[SETS];
        private final int[][] firsts = new int[SETS][MOST_PLANS];
        private final int[] worths = new int[SETS];
        private final int[] sizes = new int[SETS];
        private final long[] usable = new long[SETS];
        // Tries that failed, so that none is made twice; a newer one may stand in the place of an older one.
        private final long[] hopeless = new long[1 << MEMORY_BITS];
        // Tells tries of these PLACEMENTS from those of older ones.
        private int age;
        private int bestSet;
        private boolean fresh;

        BestNight(Night night, Book book) {
            this.night = night;
            this.book = book;
        }

        /** To be called with each change of what PLACEMENTS or BEST NIGHT depend on. */
        void forget() {
            fresh = false;
        }

        void refresh() {
            if (fresh) {
                return;
            }
            age++;
            for (int plan = 0; plan < book.count; plan++) {
                gatherPlacements(plan);
            }
            for (int set = 0; set < 1 << book.count; set++) {
                weigh(set);
                able[set] = partsAreAble(set) && sizes[set] <= night.slotCount && settle(set, 0, 0L);
                if (able[set]) {
                    System.arraycopy(chosen, 0, firsts[set], 0, book.count);
                }
            }
            bestSet = bestOf(NONE, 0);
            fresh = true;
        }

        int bestWorth() {
            return worths[bestSet];
        }

        int bestSlots() {
            int bits = 0;
            for (int plan = 0; plan < book.count; plan++) {
                if (hasBit(bestSet, plan)) {
                    bits |= bestMask(plan);
                }
            }
            return bits;
        }

        int placeOf(int plan) {
            return hasBit(bestSet, plan) ? firsts[bestSet][plan] : NONE;
        }

        int priceOf(int plan) {
            int low = 1;
            int high = MOST_WORTH + 1;
            // A PLAN that is in BEST NIGHT stays in it as its WORTH rises, so the bounds may be halved.
            for (int i = 0; i < 7 && low < high; i++) {
                int middle = (low + high) / 2;
                if (hasBit(bestOf(plan, middle), plan)) {
                    high = middle;
                } else {
                    low = middle + 1;
                }
            }
            return low <= MOST_WORTH ? low : NONE;
        }

        int whyEmpty(int slot) {
            if (hasBit(bestSlots(), slot)) {
                return 0;
            }
            long taken = takenByBest();
            int why = 1;
            for (int plan = 0; plan < book.count; plan++) {
                if (hasBit(bestSet, plan)) {
                    continue;
                }
                for (int k = 0; k < counts[plan]; k++) {
                    if (!hasBit(masks[plan][k], slot)) {
                        continue;
                    }
                    if (isFree(masks[plan][k], book.plans[plan].instrument, taken)) {
                        return 3;
                    }
                    why = 2;
                }
            }
            return why;
        }

        /** BEST BEGIN of an ALERT and its LOSS, to be found in foundBegin and foundLoss. */
        void seekBegin(int target, int instrument, Step step, int from, int to) {
            foundBegin = NONE;
            foundLoss = NONE;
            int fitting = night.fittingBegins(night.targets[target], step);
            for (int begin = from; begin <= to && foundLoss != 0; begin++) {
                if (hasBit(fitting, begin)) {
                    int mask = slotBits(begin, step.slotsLong);
                    int loss = bestWorth() - mostBeside(takenBy(mask, instrument));
                    if (foundBegin == NONE || loss < foundLoss) {
                        foundBegin = begin;
                        foundLoss = loss;
                    }
                }
            }
        }

        private int mostBeside(long taken) {
            int most = 0;
            for (int set = 1; set < 1 << book.count; set++) {
                if (able[set] && worths[set] > most && settle(set, 0, taken)) {
                    most = worths[set];
                }
            }
            return most;
        }

        private int bestMask(int plan) {
            return masks[plan][firsts[bestSet][plan]];
        }

        private long takenByBest() {
            long taken = 0;
            for (int plan = 0; plan < book.count; plan++) {
                if (hasBit(bestSet, plan)) {
                    taken |= takenBy(bestMask(plan), book.plans[plan].instrument);
                }
            }
            return taken;
        }

        private void gatherPlacements(int plan) {
            Plan placed = book.plans[plan];
            for (int j = 0; j < placed.stepCount; j++) {
                begins[j] = night.fittingBegins(night.targets[placed.targetNumber], placed.steps[j]);
            }
            counts[plan] = 0;
            reached[plan] = 0;
            gatherSteps(plan, 0, 0, night.slotCount - 1, 0);
        }

        /** Keeps all PLACEMENTS whose STEPS ahead of this one are mask, and this one begins in from .. to. */
        private void gatherSteps(int plan, int step, int from, int to, int mask) {
            Plan placed = book.plans[plan];
            if (step >= placed.stepCount) {
                keepPlacement(plan, mask);
                return;
            }
            int length = placed.steps[step].slotsLong;
            for (int begin = from; begin <= to && begin < night.slotCount; begin++) {
                if (hasBit(begins[step], begin)) {
                    int end = begin + length;
                    boolean more = step + 1 < placed.stepCount;
                    int least = more ? placed.steps[step + 1].waitLeast : 0;
                    int most = more ? placed.steps[step + 1].waitMost : 0;
                    gatherSteps(plan, step + 1, end + least, end + most, mask | slotBits(begin, length));
                }
            }
        }

        private void keepPlacement(int plan, int mask) {
            if (counts[plan] < MOST_PLACEMENTS) {
                masks[plan][counts[plan]] = mask;
                counts[plan]++;
                reached[plan] |= mask;
            }
        }

        /** Adds the set's first PLAN to what is known of the others; the empty set has nothing to add. */
        private void weigh(int set) {
            int first = 0;
            while (first < book.count && !hasBit(set, first)) {
                first++;
            }
            if (first >= book.count) {
                return;
            }
            Plan added = book.plans[first];
            int others = set & ~(1 << first);
            worths[set] = worths[others] + added.worth;
            sizes[set] = sizes[others] + added.slotsInAll();
            usable[set] = usable[others] | (long) reached[first] << ROW_BITS * added.instrument;
        }

        /** Whether the set stays placeable when any one of its PLANS is left out: else it cannot be itself. */
        private boolean partsAreAble(int set) {
            for (int plan = 0; plan < book.count; plan++) {
                if (hasBit(set, plan) && !able[set & ~(1 << plan)]) {
                    return false;
                }
            }
            return true;
        }

        /** Finds the first PLACEMENTS of the set's PLANS from this one on that GO TOGETHER with what is taken. */
        private boolean settle(int set, int plan, long taken) {
            if (plan >= book.count) {
                return true;
            }
            if (!hasBit(set, plan)) {
                chosen[plan] = ABSENT;
                return settle(set, plan + 1, taken);
            }
            int rest = set & -(1 << plan);
            if (sizes[rest] > slotsLeft(taken) || isHopeless(rest, taken)) {
                return false;
            }
            int instrument = book.plans[plan].instrument;
            for (int k = 0; k < counts[plan]; k++) {
                int mask = masks[plan][k];
                if (isFree(mask, instrument, taken)) {
                    chosen[plan] = k;
                    if (settle(set, plan + 1, taken | takenBy(mask, instrument))) {
                        return true;
                    }
                }
            }
            keepHopeless(rest, taken);
            return false;
        }

        /** How many SLOTS are not taken from all INSTRUMENTS. */
        private int slotsLeft(long taken) {
            return night.slotCount - Long.bitCount(taken & taken >> ROW_BITS & taken >> 2 * ROW_BITS & ROW);
        }

        /** What tells one try to place a set from another: of what is taken, only what its PLANS could use. */
        private long tryKey(int set, long taken) {
            return (taken & usable[set]) | (long) set << INSTRUMENTS * ROW_BITS | (long) age << AGE_SHIFT;
        }

        private static int memoryPlace(long key) {
            return (int) (key * SCATTER >>> 64 - MEMORY_BITS);
        }

        private boolean isHopeless(int set, long taken) {
            long key = tryKey(set, taken);
            return hopeless[memoryPlace(key)] == key;
        }

        private void keepHopeless(int set, long taken) {
            long key = tryKey(set, taken);
            hopeless[memoryPlace(key)] = key;
        }

        private static boolean isFree(int mask, int instrument, long taken) {
            return (taken >> ROW_BITS * instrument & mask) == 0;
        }

        /** What a PLACEMENT takes from each INSTRUMENT: its SLOTS, and from another one those next to them. */
        private static long takenBy(int mask, int instrument) {
            long near = mask | mask << 1 | mask >> 1;
            long taken = 0;
            for (int i = 0; i < INSTRUMENTS; i++) {
                taken |= (i == instrument ? mask : near) << ROW_BITS * i;
            }
            return taken;
        }

        /** BEST NIGHT's set of PLANS, if this PLAN (or NONE) had this WORTH. */
        private int bestOf(int plan, int worth) {
            int found = 0;
            for (int set = 1; set < 1 << book.count; set++) {
                if (able[set] && isBetter(set, found, plan, worth)) {
                    found = set;
                }
            }
            return found;
        }

        private boolean isBetter(int set, int other, int plan, int worth) {
            int more = worthIf(set, plan, worth) - worthIf(other, plan, worth);
            if (more != 0) {
                return more > 0;
            }
            if (sizes[set] != sizes[other]) {
                return sizes[set] < sizes[other];
            }
            for (int p = 0; p < book.count; p++) {
                if (firsts[set][p] != firsts[other][p]) {
                    return firsts[set][p] < firsts[other][p];
                }
            }
            return false;
        }

        private int worthIf(int set, int plan, int worth) {
            if (plan == NONE || !hasBit(set, plan)) {
                return worths[set];
            }
            return worths[set] - book.plans[plan].worth + worth;
        }
    }

    /** A WATCH, gone through anew each time it is asked for. */
    private static final class Watch {
        int again;
        final int[] entries = new int[MOST_SLOTS];
        /** The STEP for which a PLAN is WAITING or that goes on, DONE or LOST. */
        final int[] states = new int[MOST_PLANS];
        private final Night night;
        private final Book book;
        private final int[] stepEnds = new int[MOST_PLANS];
        private final boolean[] wasBroken = new boolean[MOST_PLANS];
        private int instrumentIn;
        private int going;
        private int slotsLeft;

        Watch(Night night, Book book) {
            this.night = night;
            this.book = book;
        }

        /** Goes through the first n SLOTS. */
        void run(int rule, int sky, int n) {
            for (int plan = 0; plan < MOST_PLANS; plan++) {
                states[plan] = 0;
                wasBroken[plan] = false;
            }
            instrumentIn = 0;
            going = NONE;
            for (int slot = 0; slot < n && slot < night.slotCount; slot++) {
                if (going == NONE) {
                    breakLateChains(slot);
                    entries[slot] = beginIn(sky, slot, choose(rule, sky, slot));
                } else {
                    entries[slot] = goOnIn(sky, slot);
                }
            }
        }

        int scoreNow() {
            int sum = 0;
            for (int plan = 0; plan < book.count; plan++) {
                if (states[plan] == DONE) {
                    sum += book.plans[plan].worth;
                }
            }
            return sum;
        }

        /** The PLAN that a SLOT of THE LOG names, SPOILT or not; NONE. */
        int planIn(int slot) {
            int entry = entries[slot];
            return entry >= LOG_CHANGE ? NONE : entry % LOG_SPOILT;
        }

        /** What a SLOT is in which nothing is going on, if the RULE takes this PLAN (or NONE). */
        private int beginIn(int sky, int slot, int plan) {
            if (plan == NONE) {
                return night.skies[sky][slot] == SHUT ? LOG_SHUT : LOG_IDLE;
            }
            if (book.plans[plan].instrument != instrumentIn) {
                instrumentIn = book.plans[plan].instrument;
                return LOG_CHANGE;
            }
            going = plan;
            slotsLeft = stepOf(plan).slotsLong;
            exposeIn(slot);
            return plan;
        }

        private int goOnIn(int sky, int slot) {
            int plan = going;
            if (night.fitsAlone(sky, targetOf(plan), stepOf(plan), slot)) {
                exposeIn(slot);
                return plan;
            }
            going = NONE;
            breakChain(plan);
            return LOG_SPOILT + plan;
        }

        private void exposeIn(int slot) {
            slotsLeft--;
            if (slotsLeft > 0) {
                return;
            }
            boolean last = states[going] + 1 >= book.plans[going].stepCount;
            states[going] = last ? DONE : states[going] + 1;
            stepEnds[going] = slot + 1;
            going = NONE;
        }

        private void breakLateChains(int slot) {
            for (int plan = 0; plan < book.count; plan++) {
                if (isWaiting(plan) && states[plan] > 0 && slot - stepEnds[plan] > stepOf(plan).waitMost) {
                    breakChain(plan);
                }
            }
        }

        private void breakChain(int plan) {
            states[plan] = again == 1 && !wasBroken[plan] ? 0 : LOST;
            wasBroken[plan] = true;
        }

        private boolean isWaiting(int plan) {
            return states[plan] < book.plans[plan].stepCount;
        }

        private Step stepOf(int plan) {
            return book.plans[plan].steps[states[plan]];
        }

        private Target targetOf(int plan) {
            return night.targets[book.plans[plan].targetNumber];
        }

        private boolean mayBegin(int plan, int sky, int slot) {
            if (!isWaiting(plan)) {
                return false;
            }
            Step step = stepOf(plan);
            // Chains that waited too long are broken by now, so only the least wait is looked at.
            boolean waited = states[plan] == 0 || slot - stepEnds[plan] >= step.waitLeast;
            return waited && slot + step.slotsLong <= night.slotCount
                    && night.fitsAlone(sky, targetOf(plan), step, slot);
        }

        private int choose(int rule, int sky, int slot) {
            int found = NONE;
            int least = 0;
            for (int plan = 0; plan < book.count; plan++) {
                if (mayBegin(plan, sky, slot)) {
                    int rank = rankOf(plan, rule, slot);
                    if (found == NONE || rank < least) {
                        found = plan;
                        least = rank;
                    }
                }
            }
            return found;
        }

        /** What the RULE wants to be least. */
        private int rankOf(int plan, int rule, int slot) {
            switch (rule) {
                case 0: return -book.plans[plan].worth;
                case 1: return night.airOf(targetOf(plan), slot);
                default: return night.lastVisible(targetOf(plan));
            }
        }
    }

    /** Accounts of LANDS and of the clock, in the order in which account() numbers them. */
    private static final class Ledger {
        final int[] sums = new int[ACCOUNTS];
        final int[] shares = new int[LANDS];
        int doneWorth;

        Ledger() {
            for (int land = 0; land < LANDS; land++) {
                shares[land] = 1;
            }
        }

        void enter(int which) {
            sums[which]++;
            sums[CLOCK]++;
        }

        int debtOf(int land) {
            int used = 0;
            int shared = 0;
            for (int i = 0; i < LANDS; i++) {
                used += sums[i];
                shared += shares[i];
            }
            return shares[land] * used - shared * sums[land];
        }

        int deepestInDebt() {
            int found = 0;
            for (int land = 1; land < LANDS; land++) {
                if (debtOf(land) > debtOf(found)) {
                    found = land;
                }
            }
            return found;
        }
    }
}
