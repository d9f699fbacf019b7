/**
 * Each refusal of each call, in objects that have nothing, something and as much of everything as there may be, and in the last
 * NIGHT: which answer it is, and that nothing is other than it would be without the call. Questions change nothing either.
 */
public final class RefusalsTest {
    private static final Due due = new Due("RefusalsTest");
    private static final int UNKNOWN = -2, OUTSIDE = -3, NOT = -4, FULL = -5;
    private static final String CHAIN = "expose 1 seeing 2 air 8, wait 0 to 2, expose 2 seeing 3 air 7 dark";

    /** What is made ahead of the call; what there is then. */
    private final String name;
    private final Glass.Call make;
    private final String[] untouched = new String[Whole.PARTS];
    private int slots;
    private int targets;
    private int plans;
    private int worlds;

    private RefusalsTest(String name, Glass.Call make) {
        this.name = name;
        this.make = make;
        for (int part = 0; part < Whole.PARTS; part++) {
            untouched[part] = Whole.part(made(), part);
        }
        SharedNights x = made();
        slots = x.count(0);
        targets = x.count(2);
        plans = x.count(3);
        worlds = x.count(4);
    }

    public static void main(String[] args) {
        RefusalsTest[] all = {new RefusalsTest("with nothing", x -> 0), new RefusalsTest("with something", Nightful::make),
            new RefusalsTest("with all", x -> full(x, "")), new RefusalsTest("with all, a FAULT", x -> full(x, "!")),
            new RefusalsTest("in the last NIGHT", RefusalsTest::last)};
        for (RefusalsTest state : all) {
            due.sentence("Terms", "Refused, and nothing changes: UNKNOWN (no such TARGET, PLAN, SLOT, LAND, WORLD), OUTSIDE (another "
                    + "number is not as told), NOT (not now: as told), FULL: the first of these that fits.");
            state.nights();
            state.plans();
            state.bestNight();
            state.watches();
            state.alerts();
            state.accounts();
            due.sentence("Not promised", "Nothing is promised beyond the answers and state changes described above");
            state.questions();
        }
        due.sentence("Terms", "FULL: the first of these that fits.");
        all[2].full();
        all[3].fullWithFault();
        all[4].notNow();
        due.sentence("Terms", "NOT (not now: as told)");
        all[0].refused("plan of an empty text", SharedNights::plan, NOT);
        all[1].refused("plan of a text with a FAULT", SharedNights::plan, NOT);
        due.end();
    }

    // ---- the objects

    private SharedNights made() {
        SharedNights x = new SharedNights();
        make.on(x);
        return x;
    }

    /** As many SLOTS, TARGETS, PLANS, WORLDS, bytes as there may be. */
    private static int full(SharedNights x, String end) {
        x.slots(12);
        for (int t = 0; t < 8; t++) {
            x.target(3 + t, 8, t % 4);
        }
        for (int p = 0; p < 5; p++) {
            Glass.plan(x, "land " + p % 4 + " with " + p % 3 + " at " + p + " worth " + (20 + p) + ": " + CHAIN);
        }
        x.seeing(1, 4, 4);
        for (int world = 0; world < 4; world++) {
            x.seeing(0, world, world);
            x.world(9 - world);
        }
        x.moon(1, 3, 6);
        x.share(2, 20);
        x.again(1);
        String text = "land 1 with 1 at 1 worth 9 : " + CHAIN;
        Glass.write(x, text + " ".repeat(160 - text.length() - end.length()) + end);
        return 0;
    }

    private static int last(SharedNights x) {
        x.slots(4);
        for (int night = 0; night < 298; night++) {
            x.close(0);
        }
        x.target(2, 8, 1);
        x.close(1);
        Glass.plan(x, "land 1 with 0 at 0 worth 9: expose 1 seeing 2 air 8");
        x.close(2);
        x.seeing(1, 2, 4);
        x.world(2);
        x.moon(1, 0, 1);
        Glass.write(x, "land 1");
        return 0;
    }

    private void refused(String call, Glass.Call refused, int answer) {
        for (int part = 0; part < Whole.PARTS; part++) {
            SharedNights x = made();
            due.is(call + " " + name, refused.on(x), answer);
            due.same("what there is behind " + call + " " + name, Whole.part(x, part), untouched[part]);
        }
    }

    private void question(String call, Glass.Call asked) {
        for (int part = 0; part < Whole.PARTS; part++) {
            SharedNights x = made();
            int first = asked.on(x);
            due.is(call + " is answered the same again, " + name, asked.on(x), first);
            due.same("what there is behind " + call + " " + name, Whole.part(x, part), untouched[part]);
        }
    }

    // ---- refusals

    private void nights() {
        for (int v : Glass.beyond(4, 12)) {
            refused("slots " + v, x -> x.slots(v), OUTSIDE);
        }
        for (int v : Glass.beyond(0, 40)) {
            refused("target with MERIDIAN " + v, x -> x.target(v, 0, 0), OUTSIDE);
        }
        for (int v : Glass.beyond(0, 8)) {
            refused("target with REACH " + v, x -> x.target(0, v, 0), OUTSIDE);
        }
        for (int v : Glass.beyond(0, 3)) {
            refused("target with REGION " + v, x -> x.target(0, 0, v), OUTSIDE);
            refused("moon in REGION " + v, x -> x.moon(v, 0, 0), OUTSIDE);
        }
        for (int v : Glass.beyond(0, targets - 1)) {
            refused("air of TARGET " + v, x -> x.air(v, 0), UNKNOWN);
        }
        for (int v : Glass.beyond(0, slots - 1)) {
            refused("air in SLOT " + v, x -> x.air(0, v), UNKNOWN);
            refused("moon from " + v, x -> x.moon(1, v, slots - 1), OUTSIDE);
            refused("moon to " + v, x -> x.moon(1, 0, v), OUTSIDE);
            refused("seeing in SLOT " + v, x -> x.seeing(0, v, 3), UNKNOWN);
            refused("seeing in SLOT " + v + ", v 5", x -> x.seeing(0, v, 5), UNKNOWN);
        }
        refused("moon from above to", x -> x.moon(1, 3, 2), OUTSIDE);
        for (int v : Glass.beyond(0, 1 + worlds)) {
            refused("seeing of sky " + v, x -> x.seeing(v, 0, 3), UNKNOWN);
            refused("seeing of sky " + v + ", v -1", x -> x.seeing(v, 0, -1), UNKNOWN);
        }
        for (int v : Glass.beyond(0, 4)) {
            for (int sky = 0; sky < 2 + worlds; sky++) {
                int of = sky;
                refused("seeing " + v + " of sky " + sky, x -> x.seeing(of, 1, v), OUTSIDE);
            }
        }
        for (int v : Glass.beyond(1, 9)) {
            refused("world of weight " + v, x -> x.world(v), OUTSIDE);
        }
    }

    private void plans() {
        for (int v : Glass.beyond(1, 8)) {
            refused("write of n " + v, x -> x.write(-1L, v), OUTSIDE);
        }
        for (int v : Glass.beyond(0, plans - 1)) {
            refused("drop " + v, x -> x.drop(v), UNKNOWN);
            refused("told of PLAN " + v, x -> x.told(v, 3), UNKNOWN);
            refused("told of PLAN " + v + ", what 5", x -> x.told(v, 5), UNKNOWN);
            refused("worth of PLAN " + v, x -> x.worth(v, 50), UNKNOWN);
            refused("worth of PLAN " + v + ", v 0", x -> x.worth(v, 0), UNKNOWN);
        }
        for (int p = 0; p < plans; p++) {
            int plan = p;
            for (int v : Glass.beyond(1, 99)) {
                refused("worth of PLAN " + p + ", v " + v, x -> x.worth(plan, v), OUTSIDE);
            }
            for (int v : new int[] {-1, 5, 9, 14, 15, 26, 36, 40, Integer.MIN_VALUE, Integer.MAX_VALUE}) {
                refused("told of PLAN " + p + ", what " + v, x -> x.told(plan, v), OUTSIDE);
            }
        }
    }

    private void bestNight() {
        for (int v : Glass.beyond(0, plans - 1)) {
            refused("placements " + v, x -> x.placements(v), UNKNOWN);
            refused("placement of PLAN " + v, x -> x.placement(v, 0), UNKNOWN);
            refused("placement of PLAN " + v + ", k -1", x -> x.placement(v, -1), UNKNOWN);
            refused("placed " + v, x -> x.placed(v), UNKNOWN);
            refused("price " + v, x -> x.price(v), UNKNOWN);
        }
        for (int p = 0; p < plans; p++) {
            int plan = p;
            for (int v : Glass.beyond(0, made().placements(p) - 1)) {
                refused("placement of PLAN " + p + ", k " + v, x -> x.placement(plan, v), OUTSIDE);
            }
        }
        for (int v : Glass.beyond(0, 1)) {
            refused("best " + v, x -> x.best(v), OUTSIDE);
        }
        for (int v : Glass.beyond(0, slots - 1)) {
            refused("empty " + v, x -> x.empty(v), UNKNOWN);
        }
    }

    private void watches() {
        for (int v : Glass.beyond(0, 1)) {
            refused("again " + v, x -> x.again(v), OUTSIDE);
            refused("value, part " + v, x -> x.value(0, v), OUTSIDE);
        }
        for (int v : Glass.beyond(0, 1 + worlds)) {
            refused("watch by sky " + v, x -> x.watch(0, v), UNKNOWN);
            refused("watch by sky " + v + ", RULE 3", x -> x.watch(3, v), UNKNOWN);
            refused("log by sky " + v, x -> x.log(0, v, 0), UNKNOWN);
            refused("log by sky " + v + ", RULE -1", x -> x.log(-1, v, 0), UNKNOWN);
            refused("state by sky " + v, x -> x.state(0, v, 0, 0), UNKNOWN);
            refused("state by sky " + v + ", RULE 3, n -1", x -> x.state(3, v, 0, -1), UNKNOWN);
        }
        for (int v : Glass.beyond(0, slots - 1)) {
            refused("log in SLOT " + v, x -> x.log(0, 1, v), UNKNOWN);
            refused("log in SLOT " + v + ", RULE 3", x -> x.log(3, 1, v), UNKNOWN);
        }
        for (int v : Glass.beyond(0, plans - 1)) {
            refused("state of PLAN " + v, x -> x.state(0, 1, v, 0), UNKNOWN);
            refused("state of PLAN " + v + ", RULE 3", x -> x.state(3, 1, v, 0), UNKNOWN);
            refused("state of PLAN " + v + ", n N + 1", x -> x.state(0, 1, v, slots + 1), UNKNOWN);
        }
        for (int v : Glass.beyond(0, 2)) {
            refused("watch by RULE " + v, x -> x.watch(v, 1), OUTSIDE);
            refused("log by RULE " + v, x -> x.log(v, 1, 0), OUTSIDE);
            refused("value of RULE " + v, x -> x.value(v, 0), OUTSIDE);
            refused("sure of RULE " + v, x -> x.sure(v), OUTSIDE);
            refused("state by RULE " + v, x -> x.state(v, 1, 0, 0), plans > 0 ? OUTSIDE : UNKNOWN);
        }
        for (int v : Glass.beyond(0, slots)) {
            refused("state behind " + v, x -> x.state(0, 1, 0, v), plans > 0 ? OUTSIDE : UNKNOWN);
        }
    }

    private void alerts() {
        for (int v : Glass.beyond(0, targets - 1)) {
            refused("alert of TARGET " + v, x -> x.alert(v, 0, 1380, 0, 3, 0), UNKNOWN);
            refused("alert of TARGET " + v + ", all else wrong", x -> x.alert(v, 3, 0, 3, 2, 2), UNKNOWN);
        }
        int wrong = targets > 0 ? OUTSIDE : UNKNOWN;
        for (int v : Glass.beyond(0, 2)) {
            refused("alert with INSTRUMENT " + v, x -> x.alert(0, v, 1380, 0, 3, 0), wrong);
        }
        for (int v : new int[] {-1, 380, 5380, 1480, 1390, 1382, Integer.MIN_VALUE, Integer.MAX_VALUE}) {
            refused("alert with needs " + v, x -> x.alert(0, 0, v, 0, 3, 1), wrong);
        }
        for (int v : Glass.beyond(0, slots - 1)) {
            refused("alert from " + v, x -> x.alert(0, 0, 1380, v, slots - 1, 0), wrong);
            refused("alert to " + v, x -> x.alert(0, 0, 1380, 0, v, 0), wrong);
        }
        refused("alert from above to", x -> x.alert(0, 0, 1380, 3, 2, 0), wrong);
        for (int v : Glass.beyond(0, 1)) {
            refused("alert, what " + v, x -> x.alert(0, 0, 1380, 0, 3, v), wrong);
        }
    }

    private void accounts() {
        for (int v : Glass.beyond(0, 3)) {
            refused("share of LAND " + v, x -> x.share(v, 9), UNKNOWN);
            refused("share of LAND " + v + ", v 0", x -> x.share(v, 0), UNKNOWN);
            refused("debt of LAND " + v, x -> x.debt(v), Integer.MIN_VALUE);
        }
        for (int v : Glass.beyond(1, 20)) {
            for (int land = 0; land < 4; land++) {
                int of = land;
                refused("share of LAND " + land + ", v " + v, x -> x.share(of, v), OUTSIDE);
            }
        }
        for (int v : Glass.beyond(0, 2)) {
            refused("close by RULE " + v, x -> x.close(v), OUTSIDE);
        }
        for (int v : Glass.beyond(0, 7)) {
            refused("account " + v, x -> x.account(v), OUTSIDE);
        }
        for (int v : Glass.beyond(0, 6)) {
            refused("count " + v, x -> x.count(v), OUTSIDE);
        }
    }

    private void full() {
        refused("target", x -> x.target(0, 0, 0), FULL);
        refused("target with REGION 4", x -> x.target(0, 0, 4), OUTSIDE);
        refused("world", x -> x.world(1), FULL);
        refused("world of weight 10", x -> x.world(10), OUTSIDE);
        refused("write of one byte", x -> x.write(33L, 1), FULL);
        refused("write of eight bytes", x -> x.write(33L, 8), FULL);
        refused("write of nine bytes", x -> x.write(33L, 9), OUTSIDE);
        refused("plan", SharedNights::plan, FULL);
    }

    private void fullWithFault() {
        refused("plan", SharedNights::plan, NOT);
    }

    private void notNow() {
        for (int rule = 0; rule < 3; rule++) {
            int by = rule;
            refused("close by RULE " + rule, x -> x.close(by), NOT);
        }
        refused("close by RULE 3", x -> x.close(3), OUTSIDE);
        refused("close by RULE -1", x -> x.close(-1), OUTSIDE);
    }

    // ---- questions

    private void questions() {
        question("air", x -> x.air(0, 1));
        question("fault", SharedNights::fault);
        question("stands", SharedNights::stands);
        question("told", x -> x.told(0, 3));
        question("placements", x -> x.placements(0));
        question("placement", x -> x.placement(0, 0));
        question("best", x -> x.best(0));
        question("best slots", x -> x.best(1));
        question("placed", x -> x.placed(0));
        question("price", x -> x.price(0));
        question("empty", x -> x.empty(0));
        for (int rule = 0; rule < 3; rule++) {
            int by = rule;
            question("watch", x -> x.watch(by, 0));
            question("log", x -> x.log(by, 1, 2));
            question("state", x -> x.state(by, 1, 0, 3));
            question("value", x -> x.value(by, 0));
            question("sure", x -> x.sure(by));
        }
        question("rule", SharedNights::rule);
        question("alert", x -> x.alert(0, 1, 2380, 0, 3, 0));
        question("alert's loss", x -> x.alert(0, 1, 2381, 0, 3, 1));
        question("account", x -> x.account(7));
        question("debt", x -> x.debt(2));
        question("next", SharedNights::next);
        question("count", x -> x.count(6));
    }
}
