/** Promises 23 to 29: again, watch, log, state, value, sure, rule. */
public final class WatchTest {
    private static final Due due = new Due("WatchTest");
    private static final String STEP = "expose 1 seeing 1 air 8";

    private WatchTest() {
    }

    public static void main(String[] args) {
        changesOfInstruments();
        begunAnew();
        spoilt();
        spoiltTwice();
        shut();
        slotsLeft();
        lateChainLookedAtWhenFree();
        leastWait();
        greatestWorth();
        leastAir();
        firstToSet();
        firstToSetLater();
        moonAndAir();
        worlds();
        bestRule();
        wrong();
        due.end();
    }

    private static SharedNights night(int slots, String... plans) {
        SharedNights x = new SharedNights();
        x.slots(slots);
        x.target(5, 8, 0);
        x.target(0, 1, 0);
        x.target(2, 2, 1);
        for (String plan : plans) {
            Glass.plan(x, plan);
        }
        return x;
    }

    private static void log(SharedNights x, int rule, int... entries) {
        for (int slot = 0; slot < entries.length; slot++) {
            due.is("log " + rule + " 1 " + slot, x.log(rule, 1, slot), entries[slot]);
        }
    }

    private static void states(SharedNights x, int rule, int plan, int... states) {
        for (int n = 0; n < states.length; n++) {
            due.is("state " + rule + " 1 " + plan + " " + n, x.state(rule, 1, plan, n), states[n]);
        }
    }

    /** A chain, and another PLAN whose INSTRUMENT is put in and out meanwhile. */
    private static SharedNights two() {
        return night(10, "land 0 with 0 at 0 worth 9: expose 2 seeing 1 air 8, wait 1 to 1, " + STEP,
                "land 1 with 1 at 0 worth 5: " + STEP);
    }

    private static void changesOfInstruments() {
        SharedNights x = two();
        log(x, 0, 0, 0, 20, 20, 20, 1, 22, 22, 22, 22);
        states(x, 0, 0, 0, 0, 1, 1, 1, 9, 9, 9, 9, 9, 9);
        states(x, 0, 1, 0, 0, 0, 0, 0, 0, 8, 8, 8, 8, 8);
        due.is("SCORE", x.watch(0, 1), 5);
    }

    private static void begunAnew() {
        SharedNights x = two();
        due.is("again", x.again(1), 0);
        log(x, 0, 0, 0, 20, 20, 0, 0, 20, 20, 20, 1);
        states(x, 0, 0, 0, 0, 1, 1, 1, 0, 1, 1, 1, 9, 9);
        due.is("SCORE", x.watch(0, 1), 5);
        due.is("again anew", x.again(0), 1);
        due.is("again 0", x.again(0), 0);
        log(x, 0, 0, 0, 20, 20, 20, 1, 22);
    }

    private static void spoilt() {
        SharedNights x = two();
        x.seeing(1, 1, 2);
        log(x, 0, 0, 10, 20, 1, 22, 22, 22, 22, 22, 22);
        states(x, 0, 0, 0, 0, 9, 9);
        due.is("SCORE", x.watch(0, 1), 5);
        due.is("by FORECAST nothing is SPOILT", x.log(0, 0, 1), 0);
        x.again(1);
        log(x, 0, 0, 10, 0, 0, 20, 20, 20, 1, 22, 22);
        states(x, 0, 0, 0, 0, 0, 0, 1, 1, 1, 9);
    }

    private static void spoiltTwice() {
        SharedNights x = night(6, "land 0 with 0 at 0 worth 9: expose 3 seeing 1 air 8");
        x.again(1);
        x.seeing(1, 2, 3);
        x.seeing(1, 4, 4);
        log(x, 0, 0, 0, 10, 0, 10, 22);
        states(x, 0, 0, 0, 0, 0, 0, 0, 9, 9);
        due.is("SCORE", x.watch(0, 1), 0);
    }

    private static void shut() {
        SharedNights x = night(4, "land 0 with 0 at 0 worth 9: expose 2 seeing 3 air 8");
        x.seeing(1, 0, 4);
        log(x, 0, 21, 0, 0, 22);
        x.seeing(1, 2, 4);
        log(x, 0, 21, 0, 10, 22);
        x.seeing(1, 3, 4);
        log(x, 0, 21, 0, 10, 21);
        SharedNights y = night(4, "land 0 with 0 at 0 worth 1: expose 1 seeing 0 air 8",
                "land 0 with 0 at 0 worth 9: expose 2 seeing 3 air 8");
        y.seeing(1, 1, 4);
        log(y, 0, 1, 11, 22, 22);
    }

    private static void slotsLeft() {
        SharedNights x = night(4, "land 0 with 0 at 0 worth 9: expose 3 seeing 1 air 8");
        x.seeing(1, 0, 2);
        log(x, 0, 22, 0, 0, 0);
        due.is("done with the last SLOT", x.watch(0, 1), 9);
        states(x, 0, 0, 0, 0, 0, 0, 8);
        x.seeing(1, 1, 2);
        log(x, 0, 22, 22, 22, 22);
        states(x, 0, 0, 0, 0, 0, 0, 0);
    }

    private static void lateChainLookedAtWhenFree() {
        SharedNights x = night(6, "land 0 with 0 at 0 worth 5: " + STEP + ", wait 0 to 0, " + STEP,
                "land 0 with 0 at 0 worth 9: expose 3 seeing 0 air 8");
        for (int slot = 1; slot < 4; slot++) {
            x.seeing(1, slot, 0);
        }
        log(x, 0, 0, 1, 1, 1, 22, 22);
        states(x, 0, 0, 0, 1, 1, 1, 1, 9, 9);
        x.again(1);
        log(x, 0, 0, 1, 1, 1, 0, 0);
        states(x, 0, 0, 0, 1, 1, 1, 1, 1, 8);
        x.again(0);
        x.seeing(1, 4, 4);
        log(x, 0, 0, 1, 1, 1, 21, 22);
        states(x, 0, 0, 0, 1, 1, 1, 1, 9, 9);
    }

    private static void leastWait() {
        SharedNights x = night(8, "land 0 with 0 at 0 worth 5: " + STEP + ", wait 2 to 3, expose 2 seeing 1 air 8, wait 0 to 1, " + STEP);
        log(x, 2, 0, 22, 22, 0, 0, 0, 22, 22);
        states(x, 2, 0, 0, 1, 1, 1, 1, 2, 8, 8, 8);
        x.seeing(1, 3, 2);
        log(x, 2, 0, 22, 22, 22, 0, 0, 0, 22);
        x.seeing(1, 4, 2);
        log(x, 2, 0, 22, 22, 22, 22, 22, 22, 22);
        states(x, 2, 0, 0, 1, 1, 1, 1, 1, 9, 9, 9);
    }

    private static void greatestWorth() {
        SharedNights x = night(4, "land 0 with 0 at 0 worth 5: " + STEP, "land 0 with 0 at 0 worth 7: " + STEP,
                "land 0 with 0 at 0 worth 7: " + STEP);
        log(x, 0, 1, 2, 0, 22);
        due.is("SCORE", x.watch(0, 1), 19);
        x.worth(0, 7);
        log(x, 0, 0, 1, 2, 22);
    }

    private static void leastAir() {
        SharedNights x = night(4, "land 0 with 0 at 0 worth 9: " + STEP, "land 0 with 0 at 1 worth 1: " + STEP,
                "land 0 with 0 at 2 worth 1: " + STEP);
        log(x, 0, 0, 1, 2, 22);
        log(x, 1, 1, 2, 0, 22);
        SharedNights y = night(4, "land 0 with 0 at 2 worth 1: " + STEP, "land 0 with 0 at 2 worth 9: " + STEP);
        log(y, 1, 0, 1, 22, 22);
    }

    private static void firstToSet() {
        SharedNights x = night(4, "land 0 with 0 at 0 worth 9: " + STEP, "land 0 with 0 at 2 worth 1: " + STEP,
                "land 0 with 0 at 1 worth 1: " + STEP);
        // TARGETS 0 and 2 would set behind the NIGHT: their last SLOT is its last one.
        log(x, 2, 2, 0, 1, 22);
        x.slots(10);
        log(x, 2, 2, 1, 0, 22);
        x.close(2);
        due.is("all are done", x.count(3), 0);
    }

    /** RULE 2 a NIGHT later, with TARGETS that set with the NIGHT and a SLOT ahead of its end. */
    private static void firstToSetLater() {
        SharedNights x = new SharedNights();
        x.slots(4);
        x.target(4, 0, 0);
        x.target(1, 2, 0);
        x.target(0, 3, 0);
        x.close(0);
        Glass.plan(x, "land 0 with 0 at 0 worth 1: " + STEP);
        Glass.plan(x, "land 0 with 0 at 1 worth 1: " + STEP);
        Glass.plan(x, "land 0 with 0 at 2 worth 1: " + STEP);
        // VISIBLE: in SLOT 3, in 0 .. 2, in 0 .. 2
        log(x, 2, 1, 2, 22, 0);
        SharedNights y = new SharedNights();
        y.slots(4);
        y.target(2, 1, 0);
        y.target(1, 1, 0);
        Glass.plan(y, "land 0 with 0 at 0 worth 1: " + STEP);
        Glass.plan(y, "land 0 with 0 at 1 worth 1: " + STEP);
        // Last VISIBLE in SLOT 3 and in SLOT 2.
        y.seeing(1, 0, 3);
        log(y, 2, 22, 1, 0, 22);
        // A NIGHT later PLAN 0 is VISIBLE in 1 .. 3, PLAN 1 in 0 .. 2.
        SharedNights z = new SharedNights();
        z.slots(4);
        z.target(3, 1, 0);
        z.target(2, 1, 0);
        z.close(0);
        Glass.plan(z, "land 0 with 0 at 0 worth 1: " + STEP);
        Glass.plan(z, "land 0 with 0 at 1 worth 1: " + STEP);
        z.seeing(1, 0, 3);
        log(z, 2, 22, 1, 0, 22);
    }

    private static void moonAndAir() {
        SharedNights x = night(6, "land 0 with 0 at 0 worth 9: expose 2 seeing 1 air 3 dark");
        log(x, 0, 22, 22, 0, 0, 22, 22);
        x.moon(0, 3, 3);
        log(x, 0, 22, 22, 0, 10, 22, 22);
        x.again(1);
        log(x, 0, 22, 22, 0, 10, 0, 0);
        x.moon(1, 3, 3);
        log(x, 0, 22, 22, 0, 0, 22, 22);
        SharedNights y = night(6, "land 0 with 0 at 1 worth 9: expose 3 seeing 1 air 8");
        log(y, 0, 0, 0, 10, 22);
    }

    private static void worlds() {
        SharedNights x = night(4, "land 0 with 0 at 0 worth 10: " + STEP);
        due.is("VALUE without WORLDS", x.value(0, 0), -1);
        due.is("SURE without WORLDS", x.sure(0), -1);
        due.is("BEST RULE without WORLDS", x.rule(), -1);
        due.is("OUTSIDE ahead of NONE", x.value(3, 0), -3);
        due.is("OUTSIDE ahead of NONE, SURE", x.sure(3), -3);
        x.world(1);
        for (int slot = 0; slot < 4; slot++) {
            x.seeing(0, slot, 4);
        }
        x.world(3);
        due.is("SCORE in WORLD 0", x.watch(0, 2), 10);
        due.is("SCORE in WORLD 1", x.watch(0, 3), 0);
        due.is("VALUE, above", x.value(0, 0), 5);
        due.is("VALUE, below", x.value(0, 1), 2);
        due.is("SURE", x.sure(0), 0);
        due.is("THE LOG of a WORLD", x.log(0, 3, 0), 21);
        due.is("state in a WORLD", x.state(0, 2, 0, 1), 8);
        x.seeing(2, 0, 4);
        x.seeing(2, 1, 4);
        due.is("a WORLD stays apart", x.log(0, 2, 2), 0);
        x.unworld();
        x.world(9);
        due.is("VALUE 0, above", x.value(2, 0), 0);
        due.is("VALUE 0, below", x.value(2, 1), 1);
        x.seeing(2, 0, 0);
        due.is("a whole VALUE, above", x.value(1, 0), 10);
        due.is("a whole VALUE, below", x.value(1, 1), 1);
        x.world(4);
        due.is("VALUE 90/13, above", x.value(1, 0), 90);
        due.is("VALUE 90/13, below", x.value(1, 1), 13);
    }

    private static void bestRule() {
        SharedNights x = new SharedNights();
        x.slots(4);
        x.target(2, 8, 0);
        x.target(0, 0, 0);
        Glass.plan(x, "land 0 with 0 at 0 worth 9: " + STEP);
        Glass.plan(x, "land 0 with 0 at 1 worth 5: " + STEP);
        x.world(2);
        due.is("RULE 0", x.value(0, 0), 9);
        due.is("RULE 1", x.value(1, 0), 14);
        due.is("RULE 2", x.value(2, 0), 14);
        due.is("SURE of RULE 0", x.sure(0), 9);
        due.is("SURE of RULE 1", x.sure(1), 14);
        due.is("BEST RULE, of several the least", x.rule(), 1);
        x.drop(1);
        due.is("all alike", x.rule(), 0);
    }

    private static void wrong() {
        SharedNights x = two();
        int[] rules = {-1, 3, Integer.MAX_VALUE};
        for (int rule : rules) {
            due.is("watch by no RULE", x.watch(rule, 0), -3);
            due.is("log by no RULE", x.log(rule, 0, 0), -3);
            due.is("state by no RULE", x.state(rule, 0, 0, 0), -3);
            due.is("value of no RULE", x.value(rule, 0), -3);
            due.is("sure of no RULE", x.sure(rule), -3);
            due.is("UNKNOWN ahead of OUTSIDE", x.watch(rule, 2), -2);
        }
        int[] skies = {-1, 2, Integer.MIN_VALUE};
        for (int sky : skies) {
            due.is("watch by no SKY", x.watch(0, sky), -2);
            due.is("log by no SKY", x.log(0, sky, 0), -2);
            due.is("state by no SKY", x.state(0, sky, 0, 0), -2);
        }
        due.is("log in SLOT N", x.log(0, 0, 10), -2);
        due.is("log in SLOT -1", x.log(3, 0, -1), -2);
        due.is("state of no PLAN", x.state(3, 0, 2, 0), -2);
        due.is("state of PLAN -1", x.state(0, 0, -1, 0), -2);
        due.is("state behind -1 SLOTS", x.state(0, 0, 0, -1), -3);
        due.is("state behind N + 1 SLOTS", x.state(0, 0, 0, 11), -3);
        due.is("value, part 2", x.value(0, 2), -3);
        due.is("value, part -1", x.value(0, -1), -3);
        due.is("again 2", x.again(2), -3);
        due.is("again -1", x.again(-1), -3);
        Glass.Call rich = Nightful::make;
        Glass.refused(due, "again 2", rich, y -> y.again(2), -3);
        Glass.refused(due, "watch 3 0", rich, y -> y.watch(3, 0), -3);
        Glass.refused(due, "watch 0 4", rich, y -> y.watch(0, 4), -2);
        Glass.refused(due, "log 0 0 9", rich, y -> y.log(0, 0, 9), -2);
        Glass.refused(due, "state 0 0 0 10", rich, y -> y.state(0, 0, 0, 10), -3);
        Glass.refused(due, "value 0 2", rich, y -> y.value(0, 2), -3);
        Glass.refused(due, "sure 3", rich, y -> y.sure(3), -3);
    }
}
