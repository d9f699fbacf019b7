import java.util.Random;

/** Runs of calls by chance (always the same ones), each answered by the class and by the plain model. */
public final class PlainModelTest {
    private static final int RUNS = 2000;
    // A step may make three calls, an object is used for 512.
    private static final int STEPS = 400;
    // The model looks at every SET; where there are more it isn't asked for BEST NIGHT.
    private static final int MOST_SETS = 4000;

    private final Due due;
    private final Random chance;
    private final int number;
    private final SharedNights x = new SharedNights();
    private final PlainModel m = new PlainModel();
    private String pending = "";
    private boolean written = false;
    private final int wanted;

    private PlainModelTest(Due due, int number) {
        this.due = due;
        this.number = number;
        chance = new Random(number);
        wanted = within(1, 5);
    }

    public static void main(String[] args) {
        Due due = new Due("PlainModelTest");
        // Other numbers try other runs.
        int first = args.length > 0 ? Integer.parseInt(args[0]) : 0;
        for (int run = first; run < first + RUNS; run++) {
            PlainModelTest test = new PlainModelTest(due, run);
            for (int call = 0; call < STEPS; call++) {
                test.step(call);
            }
        }
        due.end();
    }

    /** Mostly least .. most, now and then one beyond or far out. */
    private int near(int least, int most) {
        int kind = chance.nextInt(120);
        if (kind == 0) {
            return least - 1;
        }
        if (kind == 1) {
            return most + 1;
        }
        if (kind == 2) {
            return chance.nextInt();
        }
        return most < least ? least : least + chance.nextInt(most - least + 1);
    }

    private int within(int least, int most) {
        return least + chance.nextInt(most - least + 1);
    }

    private String stepText() {
        int s = chance.nextInt(4) == 0 ? within(0, 3) : within(1, 3);
        int r = chance.nextInt(3) == 0 ? within(0, 8) : within(4, 8);
        int k = chance.nextInt(4) == 0 ? within(1, 4) : within(1, 2);
        return "expose " + k + " seeing " + s + " air " + r + (chance.nextInt(3) == 0 ? " dark" : "");
    }

    private String planText() {
        StringBuilder s = new StringBuilder();
        int t = Math.max(0, m.count(2) - 1);
        s.append("land ").append(near(0, 3)).append(" with ").append(chance.nextBoolean() ? 0 : near(0, 2));
        s.append(" at ").append(near(0, t)).append(" worth ").append(chance.nextBoolean() ? within(1, 9) : near(1, 99));
        s.append(chance.nextBoolean() ? ": " : " :").append(stepText());
        int more = chance.nextInt(3);
        for (int i = 0; i < more; i++) {
            int a = chance.nextInt(3) == 0 ? near(0, 6) : within(0, 1);
            s.append(", wait ").append(a).append(" to ").append(near(a, a + 3)).append(',').append(stepText());
        }
        if (chance.nextInt(6) == 0) {
            garble(s);
        }
        return s.toString();
    }

    private void garble(StringBuilder s) {
        String[] bits = {" ", "dark", ",", ":", "7", "000", "12", "wait", "x", "\u0000", "\u00ff", "A", "land"};
        int at = chance.nextInt(s.length() + 1);
        switch (chance.nextInt(4)) {
            case 0: s.insert(at, bits[chance.nextInt(bits.length)]); break;
            case 1: s.setLength(at); break;
            case 2: s.delete(at, Math.min(s.length(), at + within(1, 8))); break;
            default: s.append(bits[chance.nextInt(bits.length)]); break;
        }
    }

    private void is(String call, int got, int want) {
        due.is("run " + number + ": " + call, got, want);
    }

    private void step(int call) {
        if (!pending.isEmpty()) {
            writeOn();
            return;
        }
        if (call < 6) {
            aim();
            return;
        }
        if (written) {
            written = false;
            is("fault", x.fault(), m.fault());
            is("stands", x.stands(), m.stands());
            is("plan", x.plan(), m.plan());
            return;
        }
        if (m.count(3) < wanted && chance.nextInt(3) > 0) {
            is("erase", x.erase(), m.erase());
            pending = planText();
            return;
        }
        int kind = chance.nextInt(100);
        if (kind < 20) {
            make(chance.nextInt(12));
        } else if (kind < 28) {
            texts(chance.nextInt(6));
        } else if (kind < 62) {
            bestNight(chance.nextInt(8));
        } else if (kind < 92) {
            watches(chance.nextInt(8));
        } else {
            accounts(chance.nextInt(7));
        }
    }

    private void writeOn() {
        int n = Math.min(8, pending.length());
        long bytes = Glass.packed(pending, 0, n);
        pending = pending.substring(n);
        written = pending.isEmpty();
        is("write " + bytes + " " + n, x.write(bytes, n), m.write(bytes, n));
    }

    private void aim() {
        int meridian = chance.nextInt(4) == 0 ? near(0, 40) : near(0, 12);
        int reach = chance.nextInt(4) == 0 ? near(0, 8) : within(4, 8);
        int region = near(0, 3);
        is("target", x.target(meridian, reach, region), m.target(meridian, reach, region));
    }

    private void make(int kind) {
        int a = near(0, m.count(0) - 1);
        int b = near(a, m.count(0) - 1);
        switch (kind) {
            case 0:
                int n = near(4, 12);
                if (chance.nextInt(4) == 0) {
                    is("slots " + n, x.slots(n), m.slots(n));
                }
                break;
            case 1:
                aim();
                break;
            case 2:
                int t = near(0, m.count(2) - 1);
                is("air " + t + " " + a, x.air(t, a), m.air(t, a));
                break;
            case 3:
                int region = near(0, 3);
                if (chance.nextBoolean()) {
                    is("moon", x.moon(region, a, b), m.moon(region, a, b));
                }
                break;
            case 4:
                int weight = near(1, 9);
                is("world", x.world(weight), m.world(weight));
                break;
            case 5:
                if (chance.nextInt(5) == 0) {
                    is("unworld", x.unworld(), m.unworld());
                }
                break;
            case 6:
                int v = near(0, 1);
                is("again", x.again(v), m.again(v));
                break;
            default:
                int sky = near(0, 1 + m.count(4));
                int seeing = chance.nextInt(4) == 0 ? near(0, 4) : within(0, 2);
                is("seeing", x.seeing(sky, a, seeing), m.seeing(sky, a, seeing));
                break;
        }
    }

    private void texts(int kind) {
        int p = near(0, m.count(3) - 1);
        switch (kind) {
            case 0:
                if (chance.nextInt(3) == 0) {
                    is("erase", x.erase(), m.erase());
                }
                is("fault", x.fault(), m.fault());
                break;
            case 1:
                is("stands", x.stands(), m.stands());
                break;
            case 2:
                is("plan", x.plan(), m.plan());
                if (m.count(5) > 0 && chance.nextBoolean()) {
                    is("erase", x.erase(), m.erase());
                }
                break;
            case 3:
                if (m.count(3) == 5 || chance.nextInt(8) == 0) {
                    is("drop " + p, x.drop(p), m.drop(p));
                } else {
                    pending = chance.nextInt(3) == 0 ? planText() : "";
                }
                break;
            case 4:
                int what = chance.nextInt(3) == 0 ? near(0, 39) : near(0, 3) * 10 + near(0, 5);
                is("told " + p + " " + what, x.told(p, what), m.told(p, what));
                break;
            default:
                int v = chance.nextInt(3) == 0 ? near(1, 99) : within(1, 9);
                is("worth " + p + " " + v, x.worth(p, v), m.worth(p, v));
                break;
        }
    }

    private void bestNight(int kind) {
        int p = near(0, m.count(3) - 1);
        if (kind == 0) {
            is("placements " + p, x.placements(p), m.placements(p));
            return;
        }
        if (kind == 1) {
            int k = near(0, m.placements(p) - 1);
            is("placement " + p + " " + k, x.placement(p, k), m.placement(p, k));
            return;
        }
        if (m.howManySets() > MOST_SETS) {
            return;
        }
        switch (kind) {
            case 2:
                int what = near(0, 1);
                is("best " + what, x.best(what), m.best(what));
                break;
            case 3:
                is("placed " + p, x.placed(p), m.placed(p));
                break;
            case 4:
                is("price " + p, x.price(p), m.price(p));
                break;
            case 5:
                int s = near(0, m.count(0) - 1);
                is("empty " + s, x.empty(s), m.empty(s));
                break;
            default:
                alert();
                break;
        }
    }

    private void alert() {
        int t = near(0, m.count(2) - 1);
        int i = near(0, 2);
        int needs = chance.nextInt(20) == 0 ? near(0, 9999)
                : 1000 * within(1, 3) + 100 * within(1, 3) + 10 * within(2, 8) + within(0, 1);
        int from = near(0, m.count(0) - 1);
        int to = near(from, m.count(0) - 1);
        int what = near(0, 1);
        is("alert " + t + " " + i + " " + needs + " " + from + " " + to + " " + what,
                x.alert(t, i, needs, from, to, what), m.alert(t, i, needs, from, to, what));
    }

    private void watches(int kind) {
        int rule = near(0, 2);
        int sky = near(0, 1 + m.count(4));
        int s = near(0, m.count(0) - 1);
        int p = near(0, m.count(3) - 1);
        switch (kind) {
            case 0:
                is("watch " + rule + " " + sky, x.watch(rule, sky), m.watch(rule, sky));
                break;
            case 1: case 2:
                is("log " + rule + " " + sky + " " + s, x.log(rule, sky, s), m.log(rule, sky, s));
                break;
            case 3: case 4:
                int n = near(0, m.count(0));
                is("state " + rule + " " + sky + " " + p + " " + n, x.state(rule, sky, p, n), m.state(rule, sky, p, n));
                break;
            case 5:
                int part = near(0, 1);
                is("value " + rule + " " + part, x.value(rule, part), m.value(rule, part));
                break;
            case 6:
                is("sure " + rule, x.sure(rule), m.sure(rule));
                break;
            default:
                is("rule", x.rule(), m.rule());
                break;
        }
    }

    private void accounts(int kind) {
        int land = near(0, 3);
        switch (kind) {
            case 0:
                int v = near(1, 20);
                is("share", x.share(land, v), m.share(land, v));
                break;
            case 1:
                int rule = near(0, 2);
                if (chance.nextInt(3) == 0) {
                    is("close " + rule, x.close(rule), m.close(rule));
                }
                break;
            case 2: case 3:
                int what = near(0, 7);
                is("account " + what, x.account(what), m.account(what));
                break;
            case 4:
                is("debt " + land, x.debt(land), m.debt(land));
                break;
            case 5:
                is("next", x.next(), m.next());
                break;
            default:
                int which = near(0, 6);
                is("count " + which, x.count(which), m.count(which));
                break;
        }
    }
}
