/** All that can be asked of an object, in parts: each is asked of an object of its own, which has 512 calls. */
final class Whole {
    static final int PARTS = 8;
    private static final int[] FACTS = {0, 1, 2, 3, 4, 10, 11, 12, 13, 20, 21, 22, 23, 24, 25, 30, 31, 32, 33, 34, 35};

    private final SharedNights x;
    private final StringBuilder seen = new StringBuilder();

    private Whole(SharedNights x) {
        this.x = x;
    }

    static String part(SharedNights x, int part) {
        Whole whole = new Whole(x);
        switch (part) {
            case 0: whole.sums(); break;
            case 1: whole.plans(); break;
            case 2: case 3: case 4: whole.watches(part - 2); break;
            case 5: whole.alerts(); break;
            case 6: whole.whatWas(); break;
            default: whole.whatComes(); break;
        }
        return whole.seen.toString();
    }

    private void see(String what, int answer) {
        seen.append(' ').append(what).append('=').append(answer);
    }

    private void sums() {
        for (int what = 0; what < 7; what++) {
            see("count", x.count(what));
        }
        for (int what = 0; what < 8; what++) {
            see("account", x.account(what));
        }
        for (int land = 0; land < 4; land++) {
            see("debt", x.debt(land));
        }
        see("next", x.next());
        see("fault", x.fault());
        see("stands", x.stands());
        see("best", x.best(0));
        see("best", x.best(1));
        see("rule", x.rule());
        for (int rule = 0; rule < 3; rule++) {
            see("value", x.value(rule, 0));
            see("value", x.value(rule, 1));
            see("sure", x.sure(rule));
        }
        int slots = x.count(0);
        int targets = x.count(2);
        for (int slot = 0; slot < slots; slot++) {
            see("empty", x.empty(slot));
            for (int t = 0; t < targets; t++) {
                see("air", x.air(t, slot));
            }
        }
    }

    private void plans() {
        int plans = x.count(3);
        for (int p = 0; p < plans; p++) {
            for (int what : FACTS) {
                see("told", x.told(p, what));
            }
            int placements = x.placements(p);
            see("placements", placements);
            see("placed", x.placed(p));
            see("price", x.price(p));
            for (int k = 0; k < placements && k < 10; k++) {
                see("placement", x.placement(p, k));
            }
        }
    }

    private void watches(int rule) {
        int slots = x.count(0);
        int plans = x.count(3);
        int worlds = x.count(4);
        for (int sky = 0; sky < 2 + worlds; sky++) {
            see("watch", x.watch(rule, sky));
            for (int slot = 0; slot < slots; slot++) {
                see("log", x.log(rule, sky, slot));
            }
            for (int p = 0; p < plans; p++) {
                see("state", x.state(rule, sky, p, slots / 2));
                see("state", x.state(rule, sky, p, slots));
            }
        }
    }

    /** A dark ALERT of one SLOT tells whether the TARGET is BRIGHT there. */
    private void alerts() {
        int slots = x.count(0);
        int targets = x.count(2);
        for (int t = 0; t < targets; t++) {
            for (int slot = 0; slot < slots; slot++) {
                see("dark", x.alert(t, 0, 1381, slot, slot, 0));
            }
        }
        for (int i = 0; i < 3; i++) {
            for (int k = 1; k <= 4; k++) {
                see("begin", x.alert(0, i, 1000 * k + 280, 0, slots - 1, 0));
                see("loss", x.alert(0, i, 1000 * k + 280, 0, slots - 1, 1));
            }
        }
    }

    /** What only a change tells. */
    private void whatWas() {
        for (int land = 0; land < 4; land++) {
            see("share", x.share(land, 1));
        }
        see("again", x.again(0));
        int slots = x.count(0);
        int worlds = x.count(4);
        for (int sky = 0; sky < 2 + worlds; sky++) {
            for (int slot = 0; slot < slots; slot++) {
                see("seeing", x.seeing(sky, slot, 0));
            }
        }
        int plans = x.count(3);
        for (int p = 0; p < plans; p++) {
            see("worth", x.worth(p, 1));
        }
        see("unworld", x.unworld());
        see("erase", x.erase());
        see("slots", x.slots(4));
    }

    private void whatComes() {
        see("target", x.target(1, 1, 1));
        see("world", x.world(3));
        see("write", x.write(32L, 1));
        see("plan", x.plan());
        see("close", x.close(0));
        for (int what = 0; what < 7; what++) {
            see("count", x.count(what));
        }
        for (int what = 0; what < 8; what++) {
            see("account", x.account(what));
        }
        see("drop", x.drop(0));
        see("plan", x.plan());
        plans();
        see("close", x.close(1));
        see("best", x.best(1));
    }
}
