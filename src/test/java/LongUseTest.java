import java.util.Random;

/** All 512 calls of an object, the last as right as the first; objects that are used in turns; calls beyond these. */
public final class LongUseTest {
    private static final Due due = new Due("LongUseTest");
    private static final int CALLS = 512;

    private final SharedNights x = new SharedNights();
    private final PlainModel model = new PlainModel();
    private int calls = 0;

    private LongUseTest() {
    }

    public static void main(String[] args) {
        due.sentence("What it is", "An object is used for at most 512 calls after it has been made");
        manyBestNights();
        manyPlans();
        manyNights();
        due.sentence("Promise 1", "Ten SLOTS, no TARGETS, no PLANS.");
        objectsInTurns();
        due.sentence("What it is", "what later calls answer is free.");
        callsBeyond();
        due.end();
    }

    private void is(String call, int got, int want) {
        calls++;
        due.is("call " + calls + ", " + call, got, want);
    }

    private boolean isUsedUp() {
        return calls >= CALLS;
    }

    private void target(int meridian, int reach, int region) {
        is("target", x.target(meridian, reach, region), model.target(meridian, reach, region));
    }

    private void plan(String text) {
        for (int at = 0; at < text.length() && !isUsedUp(); at += 8) {
            int n = Math.min(8, text.length() - at);
            long bytes = Glass.packed(text, at, n);
            is("write", x.write(bytes, n), model.write(bytes, n));
        }
        if (!isUsedUp()) {
            is("plan", x.plan(), model.plan());
        }
    }

    private void seeing(int sky, int slot, int v) {
        is("seeing", x.seeing(sky, slot, v), model.seeing(sky, slot, v));
    }

    private void begin() {
        target(4, 8, 0);
        target(7, 3, 1);
        plan("land 0 with 0 at 0 worth 5: expose 2 seeing 2 air 4");
        plan("land 1 with 1 at 1 worth 7: expose 1 seeing 1 air 8, wait 0 to 1, expose 1 seeing 3 air 8");
        plan("land 2 with 0 at 1 worth 3: expose 2 seeing 3 air 2");
    }

    private void askBestNight(int i) {
        int p = i % 3;
        switch (i % 5) {
            case 0: is("best", x.best(0), model.best(0)); break;
            case 1: is("price", x.price(p), model.price(p)); break;
            case 2: is("alert", x.alert(0, p, 2380, 0, 9, 1), model.alert(0, p, 2380, 0, 9, 1)); break;
            case 3: is("placed", x.placed(p), model.placed(p)); break;
            default: is("empty", x.empty(i % 10), model.empty(i % 10)); break;
        }
    }

    /** Each second call changes what BEST NIGHT depends on. */
    private static void manyBestNights() {
        LongUseTest test = new LongUseTest();
        test.begin();
        for (int i = 0; !test.isUsedUp(); i++) {
            if (i % 2 == 0) {
                test.seeing(0, i / 2 % 10, (i * 7 + i / 20) % 5);
            } else {
                test.askBestNight(i / 2);
            }
        }
        due.is("all calls are made", test.calls, CALLS);
    }

    /** PLANS come and go. */
    private static void manyPlans() {
        LongUseTest test = new LongUseTest();
        test.begin();
        for (int i = 0; !test.isUsedUp(); i++) {
            int gone = i % 3;
            test.is("drop", test.x.drop(gone), test.model.drop(gone));
            test.plan("land 3 with " + i % 2 + " at 0 worth " + (1 + i) + ": expose 3 seeing 1 air 5");
            for (int p = 0; p < 3 && !test.isUsedUp(); p++) {
                test.is("told", test.x.told(p, 3), test.model.told(p, 3));
            }
            if (!test.isUsedUp()) {
                test.is("best", test.x.best(1), test.model.best(1));
            }
        }
        due.is("all calls are made", test.calls, CALLS);
    }

    /** NIGHTS are CLOSED until it cannot be, and beyond. */
    private static void manyNights() {
        LongUseTest test = new LongUseTest();
        test.begin();
        for (int i = 0; !test.isUsedUp(); i++) {
            int rule = i % 3;
            test.is("close", test.x.close(rule), test.model.close(rule));
            if (i % 3 == 0 && !test.isUsedUp()) {
                test.is("account", test.x.account(i / 3 % 8), test.model.account(i / 3 % 8));
            }
        }
        due.is("all calls are made", test.calls, CALLS);
        due.is("the last NIGHT was reached", test.model.count(1), 300);
    }

    private static void objectsInTurns() {
        LongUseTest[] all = {new LongUseTest(), new LongUseTest(), new LongUseTest()};
        for (LongUseTest test : all) {
            test.begin();
        }
        for (int i = 0; i < 300; i++) {
            LongUseTest test = all[i % 3];
            test.seeing(0, i % 10, (i + i / 10) % 5);
            test.askBestNight(i / 3);
        }
        due.is("a new one has nothing of theirs", new SharedNights().count(2), 0);
        due.is("a new one has its own SKY", new SharedNights().seeing(0, 0, 1), 1);
    }

    /** What they answer is free, but LANGUAGE.md wants every call to end, and none to throw. */
    private static void callsBeyond() {
        Random chance = new Random(1);
        LongUseTest test = new LongUseTest();
        test.begin();
        SharedNights x = test.x;
        int ended = 0;
        for (int i = 0; i < 6000; i++) {
            int p = chance.nextInt(5);
            x.seeing(chance.nextInt(3), chance.nextInt(12), chance.nextInt(3));
            x.best(p % 2);
            x.placed(p);
            x.price(p);
            x.empty(chance.nextInt(12));
            x.alert(p % 2, p % 3, 1000 * (1 + p % 4) + 380, 0, 9, 1);
            x.watch(p % 3, chance.nextInt(4));
            x.worth(p, 1 + chance.nextInt(99));
            // Rarely, so that the TARGETS stay VISIBLE.
            if (i % 2000 == 0) {
                x.close(p % 3);
            }
            if (i % 50 == 0) {
                x.slots(4 + chance.nextInt(9));
                x.drop(p);
                x.world(1 + p);
                Glass.write(x, "land 0 with 1 at 0 worth 5: expose 1 seeing 2 air 8, wait 0 to 3, expose 1 seeing 3 air 8");
                x.plan();
                x.erase();
            }
            ended++;
        }
        due.is("all calls ended", ended, 6000);
    }
}
