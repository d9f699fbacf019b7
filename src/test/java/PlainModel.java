import java.util.ArrayList;
import java.util.List;

/** The document once more, as plainly and slowly as it can be written: every SET of PLACEMENTS is looked at. */
final class PlainModel {
    static final int NONE = -1, UNKNOWN = -2, OUTSIDE = -3, NOT = -4, FULL = -5;

    /** The first FAULT of a text. */
    private static final class Fault extends RuntimeException {
        private static final long serialVersionUID = 1L;
        final int place;
        final int can;

        Fault(int place, int can) {
            this.place = place;
            this.can = can;
        }
    }

    private static final class Told {
        int land, instrument, target, worth;
        /** Of each STEP: K, S, R, dark, A, B. */
        final List<int[]> steps = new ArrayList<>();
    }

    private static final class Watched {
        int[] log;
        int[][] states;
        int score;
    }

    private int n = 10;
    private int tonight = 0;
    private final List<int[]> targets = new ArrayList<>();
    private int[] moon = null;
    private int[] forecast = ones();
    private int[] truth = ones();
    private final List<int[]> worlds = new ArrayList<>();
    private final List<Integer> weights = new ArrayList<>();
    private final List<Integer> text = new ArrayList<>();
    private final List<Told> plans = new ArrayList<>();
    private int again = 0;
    private final int[] shares = {1, 1, 1, 1};
    private final int[] accounts = new int[8];
    private int doneWorth = 0;
    private List<int[]> sets = null;

    private static int[] ones() {
        int[] sky = new int[12];
        java.util.Arrays.fill(sky, 1);
        return sky;
    }

    private boolean slot(int s) {
        return s >= 0 && s < n;
    }

    private boolean plan(int p) {
        return p >= 0 && p < plans.size();
    }

    private int[] sky(int sky) {
        if (sky == 0) {
            return forecast;
        }
        if (sky == 1) {
            return truth;
        }
        return sky >= 2 && sky - 2 < worlds.size() ? worlds.get(sky - 2) : null;
    }

    int slots(int m) {
        if (m < 4 || m > 12) {
            return OUTSIDE;
        }
        int was = n;
        n = m;
        newSky();
        worlds.clear();
        weights.clear();
        return was;
    }

    private void newSky() {
        forecast = ones();
        truth = ones();
        moon = null;
        sets = null;
    }

    int target(int meridian, int reach, int region) {
        if (meridian < 0 || meridian > 40 || reach < 0 || reach > 8 || region < 0 || region > 3) {
            return OUTSIDE;
        }
        if (targets.size() == 8) {
            return FULL;
        }
        targets.add(new int[] {meridian, reach, region});
        return targets.size() - 1;
    }

    private int airOf(int t, int s) {
        int d = s - (targets.get(t)[0] - tonight);
        return d < 0 ? -d : d;
    }

    private boolean visible(int t, int s) {
        return airOf(t, s) <= targets.get(t)[1];
    }

    int air(int t, int s) {
        if (t < 0 || t >= targets.size() || !slot(s)) {
            return UNKNOWN;
        }
        return visible(t, s) ? airOf(t, s) : NONE;
    }

    int moon(int region, int from, int to) {
        if (region < 0 || region > 3 || !slot(from) || !slot(to) || from > to) {
            return OUTSIDE;
        }
        moon = new int[] {region, from, to};
        sets = null;
        return 1;
    }

    int seeing(int sky, int s, int v) {
        int[] row = sky(sky);
        if (row == null || !slot(s)) {
            return UNKNOWN;
        }
        if (v < 0 || v > 4) {
            return OUTSIDE;
        }
        int was = row[s];
        row[s] = v;
        sets = null;
        return was;
    }

    int world(int weight) {
        if (weight < 1 || weight > 9) {
            return OUTSIDE;
        }
        if (worlds.size() == 4) {
            return FULL;
        }
        worlds.add(forecast.clone());
        weights.add(weight);
        return worlds.size() - 1;
    }

    int unworld() {
        int were = worlds.size();
        worlds.clear();
        weights.clear();
        return were;
    }

    int write(long bytes, int m) {
        if (m < 1 || m > 8) {
            return OUTSIDE;
        }
        if (text.size() + m > 160) {
            return FULL;
        }
        for (int i = 0; i < m; i++) {
            text.add((int) (bytes >> (8 * i) & 255));
        }
        return text.size();
    }

    int erase() {
        int had = text.size();
        text.clear();
        return had;
    }

    // ---- a reader that goes down the form, word by word

    private List<String> tokens;
    private List<Integer> begins;
    private int at;

    private void cut() {
        tokens = new ArrayList<>();
        begins = new ArrayList<>();
        at = 0;
        int i = 0;
        while (i < text.size()) {
            char c = (char) (int) text.get(i);
            if (c == ' ') {
                i++;
                continue;
            }
            int j = i + 1;
            String kind = kindOf(c);
            while (!kind.isEmpty() && j < text.size() && kindOf((char) (int) text.get(j)).equals(kind)) {
                j++;
            }
            StringBuilder token = new StringBuilder();
            for (int k = i; k < j; k++) {
                token.append((char) (int) text.get(k));
            }
            tokens.add(token.toString());
            begins.add(i);
            i = j;
        }
    }

    private static String kindOf(char c) {
        return c >= 'a' && c <= 'z' ? "letter" : c >= '0' && c <= '9' ? "digit" : "";
    }

    private String token() {
        return at < tokens.size() ? tokens.get(at) : null;
    }

    private Fault fault(int can) {
        return new Fault(at < tokens.size() ? begins.get(at) : text.size(), can);
    }

    private void expect(String token, int can) {
        if (!token.equals(token())) {
            throw fault(can);
        }
        at++;
    }

    private int expectNumber(int least, int most) {
        String token = token();
        if (token == null || !token.matches("[0-9]{1,2}")) {
            throw fault(2);
        }
        int v = Integer.parseInt(token);
        if (v < least || v > most) {
            throw fault(2);
        }
        at++;
        return v;
    }

    private Told parse() {
        cut();
        Told told = new Told();
        expect("land", 1);
        told.land = expectNumber(0, 3);
        expect("with", 1);
        told.instrument = expectNumber(0, 2);
        expect("at", 1);
        told.target = expectNumber(0, targets.size() - 1);
        expect("worth", 1);
        told.worth = expectNumber(1, 99);
        expect(":", 4);
        parseStep(told, 0, 0);
        while (token() != null) {
            boolean dark = told.steps.get(told.steps.size() - 1)[3] == 1;
            if (told.steps.size() == 3) {
                throw fault(dark ? 8 : 8 + 16);
            }
            expect(",", dark ? 8 + 4 : 8 + 4 + 16);
            expect("wait", 1);
            int a = expectNumber(0, 6);
            expect("to", 1);
            int b = expectNumber(a, a + 3);
            expect(",", 4);
            parseStep(told, a, b);
        }
        return told;
    }

    private void parseStep(Told told, int a, int b) {
        expect("expose", 1);
        int k = expectNumber(1, 4);
        expect("seeing", 1);
        int s = expectNumber(0, 3);
        expect("air", 1);
        int r = expectNumber(0, 8);
        int dark = "dark".equals(token()) ? 1 : 0;
        at += dark;
        told.steps.add(new int[] {k, s, r, dark, a, b});
    }

    int fault() {
        try {
            parse();
            return NONE;
        } catch (Fault f) {
            return f.place;
        }
    }

    int stands() {
        try {
            parse();
            return 0;
        } catch (Fault f) {
            return f.can;
        }
    }

    int plan() {
        if (fault() != NONE) {
            return NOT;
        }
        if (plans.size() == 5) {
            return FULL;
        }
        plans.add(parse());
        text.clear();
        sets = null;
        return plans.size() - 1;
    }

    int drop(int p) {
        if (!plan(p)) {
            return UNKNOWN;
        }
        plans.remove(p);
        sets = null;
        return 1;
    }

    int told(int p, int what) {
        if (!plan(p)) {
            return UNKNOWN;
        }
        Told t = plans.get(p);
        if (what >= 0 && what <= 4) {
            return new int[] {t.land, t.instrument, t.target, t.worth, t.steps.size()}[what];
        }
        for (int j = 0; j < 3; j++) {
            for (int i = 0; i < (j == 0 ? 4 : 6); i++) {
                if (what == 10 * (j + 1) + i) {
                    return j < t.steps.size() ? t.steps.get(j)[i] : NONE;
                }
            }
        }
        return OUTSIDE;
    }

    int worth(int p, int v) {
        if (!plan(p)) {
            return UNKNOWN;
        }
        if (v < 1 || v > 99) {
            return OUTSIDE;
        }
        int was = plans.get(p).worth;
        plans.get(p).worth = v;
        return was;
    }

    // ---- the best night

    private boolean fitsIn(int[] sky, int target, int[] step, int s) {
        if (sky[s] > step[1] || sky[s] == 4 || !visible(target, s) || airOf(target, s) > step[2]) {
            return false;
        }
        boolean bright = moon != null && moon[0] == targets.get(target)[2] && moon[1] <= s && s <= moon[2];
        return step[3] == 0 || !bright;
    }

    private boolean fits(int[] sky, int target, int[] step, int begin) {
        for (int s = begin; s < begin + step[0]; s++) {
            if (!slot(s) || !fitsIn(sky, target, step, s)) {
                return false;
            }
        }
        return true;
    }

    private static int slotsOf(int begin, int k) {
        int bits = 0;
        for (int s = begin; s < begin + k; s++) {
            bits |= 1 << s;
        }
        return bits;
    }

    /** Of each PLACEMENT its SLOTS, by all begins that there could be. */
    private List<Integer> allPlacements(Told t) {
        List<Integer> found = new ArrayList<>();
        int m = t.steps.size();
        for (int x = 0; x < n; x++) {
            for (int y = 0; y < (m > 1 ? n : 1); y++) {
                for (int z = 0; z < (m > 2 ? n : 1); z++) {
                    int[] begin = {x, y, z};
                    boolean good = true;
                    int bits = 0;
                    for (int j = 0; j < m; j++) {
                        int[] step = t.steps.get(j);
                        good = good && fits(forecast, t.target, step, begin[j]);
                        if (j > 0) {
                            int gone = begin[j] - begin[j - 1] - t.steps.get(j - 1)[0];
                            good = good && gone >= step[4] && gone <= step[5];
                        }
                        bits |= slotsOf(begin[j], step[0]);
                    }
                    if (good) {
                        found.add(bits);
                    }
                }
            }
        }
        return found;
    }

    private static boolean together(int a, int instrumentA, int b, int instrumentB) {
        for (int s = 0; s < 12; s++) {
            for (int t = 0; t < 12; t++) {
                boolean both = (a >> s & 1) == 1 && (b >> t & 1) == 1;
                int apart = Math.abs(s - t);
                if (both && (apart == 0 || apart == 1 && instrumentA != instrumentB)) {
                    return false;
                }
            }
        }
        return true;
    }

    private List<List<Integer>> placedAll;

    /** All SETS that GO TOGETHER, each as the number of the PLACEMENT of each PLAN, 999 for none. */
    private List<int[]> allSets() {
        if (sets == null) {
            sets = new ArrayList<>();
            placedAll = new ArrayList<>();
            for (Told t : plans) {
                placedAll.add(allPlacements(t));
            }
            extend(new int[plans.size()], 0);
        }
        return sets;
    }

    private void extend(int[] set, int p) {
        if (p == plans.size()) {
            sets.add(set.clone());
            return;
        }
        for (int k = 0; k < placedAll.get(p).size(); k++) {
            boolean good = true;
            for (int q = 0; q < p && good; q++) {
                good = set[q] == 999 || together(placedAll.get(q).get(set[q]), plans.get(q).instrument,
                        placedAll.get(p).get(k), plans.get(p).instrument);
            }
            if (good) {
                set[p] = k;
                extend(set, p + 1);
            }
        }
        set[p] = 999;
        extend(set, p + 1);
    }

    private int worthOf(int[] set) {
        int sum = 0;
        for (int p = 0; p < set.length; p++) {
            sum += set[p] == 999 ? 0 : plans.get(p).worth;
        }
        return sum;
    }

    private int slotsOf(int[] set) {
        int bits = 0;
        for (int p = 0; p < set.length; p++) {
            bits |= set[p] == 999 ? 0 : placedAll.get(p).get(set[p]);
        }
        return bits;
    }

    private int[] bestSet() {
        int[] found = null;
        // The sets stand in the order in which the first is wanted, so a later one must be truly better.
        for (int[] set : allSets()) {
            if (found == null || worthOf(set) > worthOf(found) || worthOf(set) == worthOf(found)
                    && Integer.bitCount(slotsOf(set)) < Integer.bitCount(slotsOf(found))) {
                found = set;
            }
        }
        return found;
    }

    /** How many SETS there are: a test may find them too many to go through. */
    int howManySets() {
        return allSets().size();
    }

    int placements(int p) {
        return plan(p) ? allPlacements(plans.get(p)).size() : UNKNOWN;
    }

    int placement(int p, int k) {
        if (!plan(p)) {
            return UNKNOWN;
        }
        List<Integer> all = allPlacements(plans.get(p));
        return k >= 0 && k < all.size() ? all.get(k) : OUTSIDE;
    }

    int best(int what) {
        if (what < 0 || what > 1) {
            return OUTSIDE;
        }
        int[] set = bestSet();
        return what == 0 ? worthOf(set) : slotsOf(set);
    }

    int placed(int p) {
        if (!plan(p)) {
            return UNKNOWN;
        }
        int k = bestSet()[p];
        return k == 999 ? NONE : k;
    }

    int price(int p) {
        if (!plan(p)) {
            return UNKNOWN;
        }
        int was = plans.get(p).worth;
        int price = NONE;
        for (int v = 1; v <= 99 && price == NONE; v++) {
            plans.get(p).worth = v;
            if (bestSet()[p] != 999) {
                price = v;
            }
        }
        plans.get(p).worth = was;
        return price;
    }

    int empty(int s) {
        if (!slot(s)) {
            return UNKNOWN;
        }
        int[] set = bestSet();
        if ((slotsOf(set) >> s & 1) == 1) {
            return 0;
        }
        int having = 0;
        int hindered = 0;
        for (int p = 0; p < plans.size(); p++) {
            for (int bits : placedAll.get(p)) {
                if (set[p] == 999 && (bits >> s & 1) == 1) {
                    having++;
                    hindered += isHindered(bits, plans.get(p).instrument, set) ? 1 : 0;
                }
            }
        }
        return having == 0 ? 1 : having == hindered ? 2 : 3;
    }

    private boolean isHindered(int bits, int instrument, int[] set) {
        for (int q = 0; q < set.length; q++) {
            if (set[q] != 999 && !together(bits, instrument, placedAll.get(q).get(set[q]), plans.get(q).instrument)) {
                return true;
            }
        }
        return false;
    }

    // ---- watches

    int again(int v) {
        if (v < 0 || v > 1) {
            return OUTSIDE;
        }
        int was = again;
        again = v;
        return was;
    }

    /** A PLAN in a WATCH. */
    private static final class Chain {
        int state = 0;
        int end = -1;
        int breaks = 0;
    }

    private void broken(Chain c) {
        c.breaks++;
        c.state = again == 1 && c.breaks == 1 ? 0 : 9;
    }

    private Watched watched(int rule, int[] sky) {
        Watched w = new Watched();
        w.log = new int[n];
        w.states = new int[n + 1][plans.size()];
        List<Chain> chains = new ArrayList<>();
        for (int p = 0; p < plans.size(); p++) {
            chains.add(new Chain());
        }
        int in = 0;
        int going = NONE;
        int begun = 0;
        for (int s = 0; s < n; s++) {
            boolean free = going == NONE;
            if (free) {
                int p = taken(rule, sky, s, chains);
                if (p == NONE) {
                    w.log[s] = sky[s] == 4 ? 21 : 22;
                } else if (plans.get(p).instrument != in) {
                    in = plans.get(p).instrument;
                    w.log[s] = 20;
                } else {
                    going = p;
                    begun = s;
                }
            }
            if (going != NONE) {
                Told t = plans.get(going);
                Chain c = chains.get(going);
                int[] step = t.steps.get(c.state);
                if (!fitsIn(sky, t.target, step, s)) {
                    w.log[s] = 10 + going;
                    broken(c);
                    going = NONE;
                } else {
                    w.log[s] = going;
                    if (s == begun + step[0] - 1) {
                        c.state = c.state == t.steps.size() - 1 ? 8 : c.state + 1;
                        c.end = s;
                        going = NONE;
                    }
                }
            }
            for (int p = 0; p < plans.size(); p++) {
                w.states[s + 1][p] = chains.get(p).state;
            }
        }
        for (int p = 0; p < plans.size(); p++) {
            w.score += chains.get(p).state == 8 ? plans.get(p).worth : 0;
        }
        return w;
    }

    private int taken(int rule, int[] sky, int s, List<Chain> chains) {
        for (int p = 0; p < plans.size(); p++) {
            Chain c = chains.get(p);
            if ((c.state == 1 || c.state == 2) && s - 1 - c.end > plans.get(p).steps.get(c.state)[5]) {
                broken(c);
            }
        }
        int found = NONE;
        for (int p = plans.size() - 1; p >= 0; p--) {
            Chain c = chains.get(p);
            if (c.state >= 8) {
                continue;
            }
            Told t = plans.get(p);
            int[] step = t.steps.get(c.state);
            boolean may = fitsIn(sky, t.target, step, s) && n - s >= step[0];
            if (c.state > 0) {
                int gone = s - 1 - c.end;
                may = may && gone >= step[4] && gone <= step[5];
            }
            if (may && (found == NONE || liking(rule, p, s) >= liking(rule, found, s))) {
                found = p;
            }
        }
        return found;
    }

    private int liking(int rule, int p, int s) {
        Told t = plans.get(p);
        if (rule == 0) {
            return t.worth;
        }
        if (rule == 1) {
            return -airOf(t.target, s);
        }
        int last = 0;
        for (int i = 0; i < n; i++) {
            last = visible(t.target, i) ? i : last;
        }
        return -last;
    }

    int watch(int rule, int sky) {
        if (sky(sky) == null) {
            return UNKNOWN;
        }
        return rule < 0 || rule > 2 ? OUTSIDE : watched(rule, sky(sky)).score;
    }

    int log(int rule, int sky, int s) {
        if (sky(sky) == null || !slot(s)) {
            return UNKNOWN;
        }
        return rule < 0 || rule > 2 ? OUTSIDE : watched(rule, sky(sky)).log[s];
    }

    int state(int rule, int sky, int p, int m) {
        if (sky(sky) == null || !plan(p)) {
            return UNKNOWN;
        }
        return rule < 0 || rule > 2 || m < 0 || m > n ? OUTSIDE : watched(rule, sky(sky)).states[m][p];
    }

    private int[] fraction(int rule) {
        int above = 0;
        int below = 0;
        for (int w = 0; w < worlds.size(); w++) {
            above += weights.get(w) * watched(rule, worlds.get(w)).score;
            below += weights.get(w);
        }
        for (int d = below; d > 1; d--) {
            if (above % d == 0 && below % d == 0) {
                above /= d;
                below /= d;
            }
        }
        return new int[] {above, below};
    }

    int value(int rule, int part) {
        if (rule < 0 || rule > 2 || part < 0 || part > 1) {
            return OUTSIDE;
        }
        return worlds.isEmpty() ? NONE : fraction(rule)[part];
    }

    int sure(int rule) {
        if (rule < 0 || rule > 2) {
            return OUTSIDE;
        }
        int least = Integer.MAX_VALUE;
        for (int[] w : worlds) {
            least = Math.min(least, watched(rule, w).score);
        }
        return worlds.isEmpty() ? NONE : least;
    }

    int rule() {
        if (worlds.isEmpty()) {
            return NONE;
        }
        int found = 2;
        for (int r = 1; r >= 0; r--) {
            int[] a = fraction(r);
            int[] b = fraction(found);
            if ((long) a[0] * b[1] >= (long) b[0] * a[1]) {
                found = r;
            }
        }
        return found;
    }

    // ---- alerts

    int alert(int t, int instrument, int needs, int from, int to, int what) {
        if (t < 0 || t >= targets.size()) {
            return UNKNOWN;
        }
        int k = needs / 1000;
        int s = needs % 1000 / 100;
        int r = needs % 100 / 10;
        int dark = needs % 10;
        if (instrument < 0 || instrument > 2 || needs < 0 || k < 1 || k > 4 || s > 3 || r > 8 || dark > 1
                || !slot(from) || !slot(to) || from > to || what < 0 || what > 1) {
            return OUTSIDE;
        }
        int begin = NONE;
        int loss = NONE;
        int most = worthOf(bestSet());
        for (int b = to; b >= from; b--) {
            if (fits(forecast, t, new int[] {k, s, r, dark}, b)) {
                int l = most - worthBeside(slotsOf(b, k), instrument);
                if (begin == NONE || l <= loss) {
                    begin = b;
                    loss = l;
                }
            }
        }
        return what == 0 ? begin : loss;
    }

    private int worthBeside(int bits, int instrument) {
        int most = 0;
        for (int[] set : allSets()) {
            if (!isHindered(bits, instrument, set)) {
                most = Math.max(most, worthOf(set));
            }
        }
        return most;
    }

    // ---- accounts

    int share(int land, int v) {
        if (land < 0 || land > 3) {
            return UNKNOWN;
        }
        if (v < 1 || v > 20) {
            return OUTSIDE;
        }
        int was = shares[land];
        shares[land] = v;
        return was;
    }

    int close(int rule) {
        if (rule < 0 || rule > 2) {
            return OUTSIDE;
        }
        if (tonight == 300) {
            return NOT;
        }
        Watched w = watched(rule, truth);
        for (int entry : w.log) {
            int which = entry == 20 ? 4 : entry == 21 ? 5 : entry == 22 ? 6 : plans.get(entry % 10).land;
            accounts[which]++;
            accounts[7]++;
        }
        List<Told> left = new ArrayList<>();
        for (int p = 0; p < plans.size(); p++) {
            if (w.states[n][p] != 8) {
                left.add(plans.get(p));
            }
        }
        plans.clear();
        plans.addAll(left);
        doneWorth += w.score;
        tonight++;
        newSky();
        return w.score;
    }

    int account(int what) {
        return what < 0 || what > 7 ? OUTSIDE : accounts[what];
    }

    int debt(int land) {
        if (land < 0 || land > 3) {
            return Integer.MIN_VALUE;
        }
        int used = accounts[0] + accounts[1] + accounts[2] + accounts[3];
        return shares[land] * used - (shares[0] + shares[1] + shares[2] + shares[3]) * accounts[land];
    }

    int next() {
        int found = 3;
        for (int land = 2; land >= 0; land--) {
            found = debt(land) >= debt(found) ? land : found;
        }
        return found;
    }

    int count(int what) {
        int[] all = {n, tonight, targets.size(), plans.size(), worlds.size(), text.size(), doneWorth};
        return what < 0 || what > 6 ? OUTSIDE : all[what];
    }
}
