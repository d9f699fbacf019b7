/** The bounds that the document names for WATCHES and WORLDS: Terms 4 and 5, promises 23 to 29. */
public final class WatchEdgesTest {
    private static final Due due = new Due("WatchEdgesTest");
    private static final String ALL = Glass.step(1);

    private WatchEdgesTest() {
    }

    public static void main(String[] args) {
        rulesLeastAndMost();
        waitingAtFirst();
        oneAtATime();
        slotsLeft();
        waitOfStep1();
        waitOfStep2();
        lateChains();
        lateWhileAnotherGoesOn();
        lateInTheSameSlot();
        greatestWorth();
        leastAir();
        firstToSet();
        firstToSetLater();
        leastPlan();
        instrumentAtFirst();
        instrumentStaysIn();
        changeTakesTheSlot();
        spoiltInEachSlot();
        spoiltByEachNeed();
        slotBehindSpoilt();
        stepDone();
        againNotSet();
        againOnce();
        againOfLateChains();
        againAnewWithEachWatch();
        logOfPlans();
        logOfOthers();
        score();
        worldsFourAtMost();
        weightsLeastAndMost();
        worldsAndWeights();
        valueOfMost();
        bestRuleOfEach();
        sureIsLeast();
        againRefused();
        watchRefused();
        logRefused();
        stateBounds();
        stateRefused();
        valueRefused();
        sureRefused();
        ruleNone();
        due.end();
    }

    private static void log(String what, SharedNights x, int rule, int... entries) {
        for (int slot = 0; slot < entries.length; slot++) {
            due.is("log of SLOT " + slot + " by RULE " + rule + ", " + what, x.log(rule, 1, slot), entries[slot]);
        }
        due.is("no SLOT behind them", x.log(rule, 1, x.count(0)), -2);
    }

    private static void states(String what, SharedNights x, int plan, int... states) {
        for (int n = 0; n < states.length; n++) {
            due.is("state of PLAN " + plan + " behind " + n + ", " + what, x.state(0, 1, plan, n), states[n]);
        }
    }

    /** TRUE SKY is shut in SLOTS from .. to. */
    private static SharedNights shut(SharedNights x, int from, int to) {
        for (int slot = from; slot <= to; slot++) {
            x.seeing(1, slot, 4);
        }
        return x;
    }

    // ---- Terms: beginning

    private static void rulesLeastAndMost() {
        due.sentence("Terms", "A WATCH goes through TONIGHT SLOT by SLOT, by a RULE (0 .. 2), by a SKY.");
        SharedNights x = Glass.night(4, Glass.told(0, 0, 5, ALL));
        x.world(1);
        for (int sky = 0; sky < 3; sky++) {
            for (int rule = -1; rule <= 3; rule++) {
                boolean good = rule >= 0 && rule <= 2;
                due.is("watch by RULE " + rule + ", SKY " + sky, x.watch(rule, sky), good ? 5 : -3);
                due.is("log by RULE " + rule + ", SKY " + sky, x.log(rule, sky, 0), good ? 0 : -3);
                due.is("state by RULE " + rule + ", SKY " + sky, x.state(rule, sky, 0, 1), good ? 8 : -3);
            }
        }
        for (int rule = -1; rule <= 3; rule++) {
            due.is("value of RULE " + rule, x.value(rule, 0), rule >= 0 && rule <= 2 ? 5 : -3);
            due.is("sure of RULE " + rule, x.sure(rule), rule >= 0 && rule <= 2 ? 5 : -3);
        }
        due.is("close by RULE -1", x.close(-1), -3);
        due.is("close by RULE 3", x.close(3), -3);
        due.is("close by RULE 2", x.close(2), 5);
    }

    /** PLAN 1 is worth more, but can first begin in SLOT 1, when PLAN 0 goes on. */
    private static void oneAtATime() {
        due.sentence("Terms", "In a SLOT, if nothing is going on: a PLAN MAY begin its STEP");
        for (int k = 1; k <= 4; k++) {
            SharedNights x = Glass.night(6, Glass.told(0, 0, 5, Glass.step(k)), Glass.told(0, 0, 9, "expose 1 seeing 0 air 8"));
            for (int slot = 1; slot < 6; slot++) {
                x.seeing(1, slot, 0);
            }
            for (int slot = 0; slot < 6; slot++) {
                due.is("K " + k + ", SLOT " + slot, x.log(0, 1, slot), slot < k ? 0 : slot == k ? 1 : 22);
            }
        }
    }

    private static void waitingAtFirst() {
        due.sentence("Terms", "Each PLAN is WAITING for its STEP j (0 at first), DONE or LOST.");
        SharedNights x = Glass.night(4);
        for (int p = 0; p < 5; p++) {
            Glass.plan(x, Glass.told(p % 3, 0, 5, ALL));
            for (int rule = 0; rule < 3; rule++) {
                due.is("state ahead of the first SLOT", x.state(rule, 1, p, 0), 0);
            }
        }
    }

    private static void slotsLeft() {
        due.sentence("Terms", "if that SLOT alone fits it (as above, with one SLOT; K SLOTS, too, must be left in the NIGHT)");
        for (int n = 4; n <= 12; n++) {
            for (int k = 1; k <= 4; k++) {
                SharedNights x = Glass.night(n, Glass.told(0, 0, 5, Glass.step(k)));
                shut(x, 0, n - k - 1);
                due.is("K " + k + " just left of " + n, x.watch(0, 1), 5);
                due.is("it begins", x.log(0, 1, n - k), 0);
                due.is("it is done with the last SLOT", x.state(0, 1, 0, n), 8);
                due.is("it goes on in the last SLOT", x.state(0, 1, 0, n - 1), 0);
                shut(x, n - k, n - k);
                due.is("one SLOT less than K " + k + " of " + n, x.watch(0, 1), 0);
                due.is("nothing in the last SLOT", x.log(0, 1, n - 1), k == 1 ? 21 : 22);
                due.is("it is WAITING", x.state(0, 1, 0, n), 0);
            }
        }
        SharedNights x = Glass.night(4, Glass.told(0, 0, 5, Glass.step(2)));
        shut(x, 1, 1);
        log("the first SLOT alone fits: it begins", x, 0, 0, 10, 22, 22);
    }

    /** Behind so many SLOTS it is shut for as many as go by. */
    private static SharedNights shutBehind(String chain, int end, int gone) {
        return shut(Glass.night(12, Glass.told(0, 0, 5, chain)), end, end + gone - 1);
    }

    private static void waitOfStep1() {
        due.sentence("Terms", "for STEP 1 and 2, as many SLOTS went by since the end of the one ahead as its wait tells (A .. B)");
        waits(1, ALL, 1);
    }

    private static void waitOfStep2() {
        due.sentence("Terms", "for STEP 1 and 2, as many SLOTS went by since the end of the one ahead as its wait tells (A .. B)");
        waits(2, Glass.step(2) + ", wait 0 to 0, " + ALL, 3);
    }

    /** All waits ahead of this STEP, which is the last: the chain ahead of it ends with so many SLOTS. */
    private static void waits(int step, String ahead, int end) {
        for (int a = 0; a <= 6; a++) {
            for (int b = a; b <= a + 3; b++) {
                for (int gone = 0; gone <= b + 1 && end + gone < 12; gone++) {
                    SharedNights x = shutBehind(ahead + ", wait " + a + " to " + b + ", " + ALL, end, gone);
                    int begin = end + Math.max(a, gone);
                    boolean late = gone > b;
                    String what = "STEP " + step + ", wait " + a + " to " + b + ", gone " + gone;
                    due.is("SCORE, " + what, x.watch(0, 1), late || begin >= 12 ? 0 : 5);
                    if (begin < 12) {
                        due.is("log, " + what, x.log(0, 1, begin), late ? 22 : 0);
                        due.is("state behind it, " + what, x.state(0, 1, 0, begin + 1), late ? 9 : 8);
                        due.is("state ahead of it, " + what, x.state(0, 1, 0, begin), step);
                    }
                }
            }
        }
    }

    private static void lateChains() {
        due.sentence("Terms", "where more than B went by, its chain is BROKEN");
        for (int b = 0; b <= 3; b++) {
            SharedNights x = shutBehind(ALL + ", wait 0 to " + b + ", " + ALL, 1, 11);
            for (int n = 0; n <= 12; n++) {
                // SLOTS 1 .. n - 1 went by; the first in which more than B did is SLOT B + 2.
                due.is("state behind " + n + " with B " + b, x.state(0, 1, 0, n), n == 0 ? 0 : n < b + 3 ? 1 : 9);
            }
        }
    }

    private static void lateWhileAnotherGoesOn() {
        due.sentence("Terms", "(that is looked at ahead of all else, in each SLOT in which nothing is going on)");
        // PLAN 1 goes on in SLOTS 1 .. 4: only it can be in SEEING 0 first.
        SharedNights x = Glass.night(8, Glass.told(0, 0, 5, ALL + ", wait 0 to 1, " + ALL),
                Glass.told(0, 0, 9, "expose 4 seeing 0 air 8"));
        for (int slot = 1; slot < 5; slot++) {
            x.seeing(1, slot, 0);
        }
        log("PLAN 1 goes on", x, 0, 0, 1, 1, 1, 1, 22, 22, 22);
        states("looked at behind PLAN 1", x, 0, 0, 1, 1, 1, 1, 1, 9, 9, 9);
        // SPOILT in SLOT 4: something was going on in it, so it is looked at in SLOT 5.
        x.seeing(1, 4, 1);
        log("PLAN 1 is SPOILT", x, 0, 0, 1, 1, 1, 11, 22, 22, 22);
        states("looked at behind the SPOILT SLOT", x, 0, 0, 1, 1, 1, 1, 1, 9, 9, 9);
    }

    private static void lateInTheSameSlot() {
        due.sentence("Terms", "(that is looked at ahead of all else, in each SLOT in which nothing is going on)");
        SharedNights x = shutBehind(ALL + ", wait 0 to 1, " + ALL, 1, 2);
        x.again(1);
        log("begun anew in the SLOT in which it is BROKEN", x, 0, 0, 21, 21, 0, 0, 22, 22, 22, 22, 22, 22, 22);
        states("anew", x, 0, 0, 1, 1, 1, 1, 8);
        // It is looked at in a SLOT that is shut, and in one that becomes a CHANGE.
        SharedNights y = shutBehind(ALL + ", wait 0 to 1, " + ALL, 1, 4);
        states("in a shut SLOT", y, 0, 0, 1, 1, 1, 9, 9, 9);
        SharedNights z = Glass.night(6, Glass.told(0, 0, 5, ALL + ", wait 2 to 2, expose 1 seeing 0 air 8"), Glass.told(1, 0, 4, ALL));
        shut(z, 1, 3);
        log("a CHANGE", z, 0, 0, 21, 21, 21, 20, 1);
        states("in a CHANGE", z, 0, 0, 1, 1, 1, 1, 9, 9);
    }

    // ---- Terms: the RULES

    private static void greatestWorth() {
        due.sentence("Terms", "Of those that MAY the RULE takes: 0 the greatest WORTH");
        SharedNights x = Glass.night(4, Glass.told(0, 0, 1, ALL), Glass.told(0, 0, 98, ALL), Glass.told(0, 0, 99, ALL));
        log("by WORTH", x, 0, 2, 1, 0, 22);
        x.worth(0, 99);
        log("alike", x, 0, 0, 2, 1, 22);
        x.worth(2, 1);
        log("the least last", x, 0, 0, 1, 2, 22);
    }

    private static void leastAir() {
        due.sentence("Terms", "1 the least AIR");
        SharedNights x = new SharedNights();
        x.slots(5);
        x.target(8, 8, 0);
        x.target(2, 8, 0);
        x.target(0, 8, 0);
        for (int t = 0; t < 3; t++) {
            Glass.plan(x, Glass.told(0, t, 9 - t, ALL));
        }
        log("by AIR", x, 1, 2, 1, 0, 22, 22);
        // In SLOT 1 both have AIR 1, from either side.
        SharedNights y = new SharedNights();
        y.slots(4);
        y.target(2, 8, 0);
        y.target(0, 8, 0);
        Glass.plan(y, Glass.told(0, 0, 1, ALL));
        Glass.plan(y, Glass.told(0, 1, 9, ALL));
        shut(y, 0, 0);
        log("alike from either side", y, 1, 21, 0, 1, 22);
        shut(y, 1, 1);
        log("AIR in that SLOT", y, 1, 21, 21, 0, 1);
    }

    private static void firstToSet() {
        due.sentence("Terms", "2 the least SLOT that is the last of the NIGHT in which its TARGET is VISIBLE");
        SharedNights x = new SharedNights();
        x.slots(6);
        int[][] targets = {{0, 8}, {0, 5}, {0, 4}, {1, 2}, {0, 0}};
        for (int t = 0; t < 5; t++) {
            x.target(targets[t][0], targets[t][1], 0);
            Glass.plan(x, Glass.told(0, t, 9, ALL));
        }
        // Last VISIBLE in SLOTS 5 (it would be 8), 5, 4, 3, 0.
        log("by the last SLOT", x, 2, 4, 3, 2, 0, 1, 22);
        x.slots(9);
        log("a longer NIGHT", x, 2, 4, 3, 2, 1, 0, 22, 22, 22, 22);
        x.slots(4);
        log("a shorter NIGHT", x, 2, 4, 0, 1, 2);
    }

    private static void firstToSetLater() {
        due.sentence("Terms", "the last of the NIGHT in which its TARGET is VISIBLE");
        SharedNights x = new SharedNights();
        x.slots(6);
        x.target(9, 1, 0);
        x.target(8, 1, 0);
        x.target(7, 1, 0);
        for (int t = 0; t < 3; t++) {
            Glass.plan(x, Glass.told(0, t, 9, "expose 1 seeing 0 air 8"));
        }
        for (int night = 1; night <= 4; night++) {
            x.close(0);
        }
        // In NIGHT 4 they are VISIBLE in SLOTS 4 .. 6 of which 6 is none, 3 .. 5, 2 .. 4: PLANS 0 and 1 last in SLOT 5.
        x.seeing(1, 4, 0);
        log("in NIGHT 4", x, 2, 22, 22, 22, 22, 2, 22);
        x.seeing(1, 5, 0);
        log("in NIGHT 4, two SLOTS", x, 2, 22, 22, 22, 22, 2, 0);
        x.seeing(1, 4, 1);
        log("in NIGHT 4, the last SLOT", x, 2, 22, 22, 22, 22, 22, 0);
        x.slots(7);
        x.seeing(1, 4, 0);
        x.seeing(1, 5, 0);
        log("in a longer NIGHT", x, 2, 22, 22, 22, 22, 2, 1, 22);
    }

    private static void leastPlan() {
        due.sentence("Terms", "of several the least PLAN");
        SharedNights x = Glass.night(6);
        for (int p = 0; p < 5; p++) {
            Glass.plan(x, Glass.told(0, 0, 9, ALL));
        }
        for (int rule = 0; rule < 3; rule++) {
            log("all alike", x, rule, 0, 1, 2, 3, 4, 22);
        }
    }

    // ---- Terms: CHANGES

    private static void instrumentAtFirst() {
        due.sentence("Terms", "If its INSTRUMENT is not that which is in (0 when the WATCH begins; it stays in from then on), "
                + "this SLOT is a CHANGE and it is in then, nothing begins.");
        for (int i = 0; i < 3; i++) {
            SharedNights x = Glass.night(4, Glass.told(i, 0, 9, ALL));
            for (int rule = 0; rule < 3; rule++) {
                if (i == 0) {
                    log("INSTRUMENT 0", x, rule, 0, 22, 22, 22);
                } else {
                    log("INSTRUMENT " + i, x, rule, 20, 0, 22, 22);
                }
            }
            states("INSTRUMENT " + i, x, 0, 0, i == 0 ? 8 : 0, 8, 8, 8);
        }
    }

    private static void instrumentStaysIn() {
        due.sentence("Terms", "it stays in from then on");
        SharedNights x = Glass.night(7, Glass.told(2, 0, 9, ALL), Glass.told(2, 0, 8, ALL), Glass.told(0, 0, 7, ALL),
                Glass.told(1, 0, 6, ALL));
        log("2 2 0 1", x, 0, 20, 0, 1, 20, 2, 20, 3);
        log("asked again: 0 is in at first", x, 0, 20, 0, 1, 20, 2, 20, 3);
        due.is("SCORE", x.watch(0, 1), 30);
        x.close(0);
        Glass.plan(x, Glass.told(1, 0, 6, ALL));
        log("0 is in at first in the next NIGHT", x, 0, 20, 0, 22, 22, 22, 22, 22);
    }

    private static void changeTakesTheSlot() {
        due.sentence("Terms", "this SLOT is a CHANGE and it is in then, nothing begins");
        SharedNights x = Glass.night(4, Glass.told(1, 0, 9, Glass.step(4)));
        log("no K SLOTS are left then", x, 0, 20, 22, 22, 22);
        SharedNights y = Glass.night(4, Glass.told(1, 0, 9, Glass.step(3)));
        log("K SLOTS are left then", y, 0, 20, 0, 0, 0);
        SharedNights z = shut(Glass.night(4, Glass.told(1, 0, 9, ALL)), 0, 2);
        log("a CHANGE in the last SLOT", z, 0, 21, 21, 21, 20);
        due.is("SCORE", z.watch(0, 1), 0);
        states("in the last SLOT", z, 0, 0, 0, 0, 0, 0);
        // It is in, but another INSTRUMENT is wanted in the next SLOT.
        SharedNights w = new SharedNights();
        w.slots(4);
        w.target(0, 0, 0);
        w.target(1, 3, 0);
        Glass.plan(w, Glass.told(1, 0, 9, ALL));
        Glass.plan(w, Glass.told(2, 1, 8, ALL));
        log("two CHANGES side by side", w, 0, 20, 20, 1, 22);
        log("by AIR", w, 1, 20, 20, 1, 22);
    }

    // ---- Terms: SPOILT, BROKEN

    private static void spoiltInEachSlot() {
        due.sentence("Terms", "Else the STEP goes on from this SLOT for K SLOTS, as long as each of them fits; in the first that does "
                + "not it is SPOILT (that SLOT is so), and its chain is BROKEN.");
        for (int k = 1; k <= 4; k++) {
            for (int bad = 1; bad <= 5; bad++) {
                SharedNights x = Glass.night(6, Glass.told(0, 0, 9, "expose " + k + " seeing 1 air 8"));
                x.seeing(1, bad, 2);
                boolean spoilt = bad < k;
                for (int slot = 0; slot < 6; slot++) {
                    int entry = slot >= k || spoilt && slot > bad ? 22 : spoilt && slot == bad ? 10 : 0;
                    due.is("K " + k + ", bad SLOT " + bad + ", SLOT " + slot, x.log(0, 1, slot), entry);
                }
                due.is("SCORE, K " + k + ", bad SLOT " + bad, x.watch(0, 1), spoilt ? 0 : 9);
                due.is("LOST or DONE", x.state(0, 1, 0, 6), spoilt ? 9 : 8);
                due.is("behind the bad SLOT", x.state(0, 1, 0, bad + 1), spoilt ? 9 : k <= bad + 1 ? 8 : 0);
            }
        }
    }

    private static void spoiltByEachNeed() {
        due.sentence("Terms", "as long as each of them fits; in the first that does not it is SPOILT");
        for (int s = 0; s <= 3; s++) {
            SharedNights x = Glass.night(4, Glass.told(0, 0, 9, "expose 2 seeing " + s + " air 8"));
            x.seeing(1, 0, 0);
            for (int v = 0; v <= 4; v++) {
                x.seeing(1, 1, v);
                due.is("S " + s + ", SEEING " + v, x.log(0, 1, 1), v <= s ? 0 : 10);
            }
        }
        SharedNights reach = new SharedNights();
        reach.target(1, 2, 0);
        Glass.plan(reach, Glass.told(0, 0, 9, Glass.step(4)));
        due.is("VISIBLE just so long", reach.watch(0, 1), 9);
        reach.close(0);
        Glass.plan(reach, Glass.told(0, 0, 9, Glass.step(4)));
        log("not VISIBLE any more", reach, 0, 0, 0, 0, 10, 22);
        SharedNights air = new SharedNights();
        air.target(0, 8, 0);
        Glass.plan(air, Glass.told(0, 0, 9, "expose 4 seeing 1 air 3"));
        due.is("AIR at most R", air.watch(0, 1), 9);
        air.drop(0);
        Glass.plan(air, Glass.told(0, 0, 9, "expose 4 seeing 1 air 2"));
        log("AIR above R", air, 0, 0, 0, 0, 10, 22);
        SharedNights moon = Glass.night(6, Glass.told(0, 0, 9, "expose 4 seeing 1 air 8 dark"));
        moon.moon(0, 4, 5);
        log("BRIGHT behind it", moon, 0, 0, 0, 0, 0, 22, 22);
        moon.moon(0, 3, 3);
        log("BRIGHT in its last SLOT", moon, 0, 0, 0, 0, 10, 22, 22);
        moon.moon(1, 0, 5);
        log("moon of another REGION", moon, 0, 0, 0, 0, 0, 22, 22);
    }

    private static void slotBehindSpoilt() {
        due.sentence("Terms", "in the first that does not it is SPOILT (that SLOT is so)");
        SharedNights x = Glass.night(5, Glass.told(0, 0, 9, "expose 4 seeing 1 air 8"), Glass.told(0, 0, 5, ALL));
        x.seeing(1, 1, 2);
        log("another begins in the next SLOT", x, 0, 0, 10, 1, 22, 22);
        // The same SLOT would have fitted PLAN 1: nothing else is in it.
        due.is("SCORE", x.watch(0, 1), 5);
        states("PLAN 1", x, 1, 0, 0, 0, 8, 8, 8);
    }

    private static void stepDone() {
        due.sentence("Terms", "When K SLOTS went by, the STEP is done: the PLAN is WAITING for the next one, or DONE.");
        for (int k = 1; k <= 4; k++) {
            SharedNights x = Glass.night(12, Glass.told(0, 0, 9, Glass.step(k) + ", wait 0 to 0, " + Glass.step(k)
                    + ", wait 0 to 0, " + Glass.step(k)));
            for (int n = 0; n <= 12; n++) {
                int done = n / k;
                due.is("state behind " + n + " with K " + k, x.state(0, 1, 0, n), done >= 3 ? 8 : done);
            }
            due.is("SCORE", x.watch(0, 1), 9);
        }
    }

    // ---- Terms: AGAIN

    private static SharedNights spoiltTwice() {
        SharedNights x = Glass.night(8, Glass.told(0, 0, 9, "expose 2 seeing 1 air 8"));
        x.seeing(1, 1, 2);
        x.seeing(1, 3, 2);
        return x;
    }

    private static void againNotSet() {
        due.sentence("Terms", "else the PLAN is LOST");
        SharedNights x = spoiltTwice();
        log("AGAIN 0 at first", x, 0, 0, 10, 22, 22, 22, 22, 22, 22);
        states("LOST at once", x, 0, 0, 0, 9, 9, 9, 9, 9, 9, 9);
        x.again(1);
        x.again(0);
        log("AGAIN 0 anew", x, 0, 0, 10, 22, 22, 22, 22, 22, 22);
    }

    private static void againOnce() {
        due.sentence("Terms", "BROKEN, a chain begins anew with STEP 0, if AGAIN is set (0, 1; 0 at first) and it was not BROKEN before "
                + "in this WATCH");
        SharedNights x = spoiltTwice();
        x.again(1);
        log("BROKEN twice", x, 0, 0, 10, 0, 10, 22, 22, 22, 22);
        states("LOST the second time", x, 0, 0, 0, 0, 0, 9, 9, 9, 9, 9);
        x.seeing(1, 3, 1);
        log("BROKEN once", x, 0, 0, 10, 0, 0, 22, 22, 22, 22);
        due.is("SCORE", x.watch(0, 1), 9);
        SharedNights y = Glass.night(8, Glass.told(0, 0, 9, ALL + ", wait 0 to 0, expose 2 seeing 1 air 8"));
        y.again(1);
        y.seeing(1, 2, 2);
        log("STEP 1 SPOILT, then from STEP 0 on", y, 0, 0, 0, 10, 0, 0, 0, 22, 22);
        states("from STEP 0 on", y, 0, 0, 1, 1, 0, 1, 1, 8, 8, 8);
    }

    private static void againOfLateChains() {
        due.sentence("Terms", "and it was not BROKEN before in this WATCH; else the PLAN is LOST");
        SharedNights x = Glass.night(10, Glass.told(0, 0, 9, "expose 1 seeing 1 air 8, wait 0 to 0, expose 2 seeing 1 air 8"));
        x.again(1);
        shut(x, 1, 2);
        shut(x, 5, 5);
        log("late, then SPOILT", x, 0, 0, 21, 21, 0, 0, 10, 22, 22, 22, 22);
        states("late, then SPOILT", x, 0, 0, 1, 1, 0, 1, 1, 9, 9);
        SharedNights y = Glass.night(10, Glass.told(0, 0, 9, "expose 1 seeing 1 air 8, wait 0 to 0, expose 2 seeing 1 air 8"));
        y.again(1);
        shut(y, 2, 2);
        shut(y, 4, 5);
        log("SPOILT, then late", y, 0, 0, 0, 10, 0, 21, 21, 22, 22, 22, 22);
        states("SPOILT, then late", y, 0, 0, 1, 1, 0, 1, 1, 9, 9);
        SharedNights z = Glass.night(10, Glass.told(0, 0, 9, "expose 1 seeing 1 air 8, wait 0 to 0, expose 2 seeing 1 air 8"));
        z.again(1);
        shut(z, 1, 2);
        shut(z, 4, 5);
        log("late twice", z, 0, 0, 21, 21, 0, 21, 21, 22, 22, 22, 22);
        states("late twice", z, 0, 0, 1, 1, 0, 1, 1, 9, 9);
    }

    private static void againAnewWithEachWatch() {
        due.sentence("Terms", "it was not BROKEN before in this WATCH");
        SharedNights x = spoiltTwice();
        x.again(1);
        x.seeing(1, 3, 1);
        for (int rule = 0; rule < 3; rule++) {
            due.is("SCORE by RULE " + rule, x.watch(rule, 1), 9);
            due.is("SCORE anew by RULE " + rule, x.watch(rule, 1), 9);
        }
        // Each PLAN has its own chain.
        SharedNights y = Glass.night(8, Glass.told(0, 0, 9, "expose 2 seeing 1 air 8"), Glass.told(0, 0, 8, "expose 2 seeing 2 air 8"));
        y.again(1);
        y.seeing(1, 1, 2);
        y.seeing(1, 5, 3);
        log("both BROKEN once", y, 0, 0, 10, 0, 0, 1, 11, 1, 1);
        due.is("both DONE", y.watch(0, 1), 17);
    }

    // ---- Terms: THE LOG, SCORE

    private static void logOfPlans() {
        due.sentence("Terms", "THE LOG tells each SLOT: the PLAN whose STEP went on; 10 and the PLAN: SPOILT");
        SharedNights x = Glass.night(10);
        for (int p = 0; p < 5; p++) {
            Glass.plan(x, Glass.told(0, 0, 9 - p, "expose 2 seeing 1 air 8"));
        }
        log("each PLAN", x, 0, 0, 0, 1, 1, 2, 2, 3, 3, 4, 4);
        for (int slot = 1; slot < 10; slot += 2) {
            x.seeing(1, slot, 4);
        }
        log("each SPOILT", x, 0, 0, 10, 1, 11, 2, 12, 3, 13, 4, 14);
    }

    private static void logOfOthers() {
        due.sentence("Terms", "20 CHANGE; 21 shut (SEEING 4, nothing went on), 22 nothing MAY begin");
        SharedNights none = Glass.night(5);
        for (int v = 0; v <= 4; v++) {
            none.seeing(1, v, v);
        }
        log("no PLANS", none, 0, 22, 22, 22, 22, 21);
        SharedNights x = Glass.night(6, Glass.told(2, 0, 9, Glass.step(2)));
        x.seeing(1, 0, 4);
        x.seeing(1, 3, 4);
        x.seeing(1, 5, 4);
        log("each kind", x, 0, 21, 20, 0, 10, 22, 21);
    }

    private static void score() {
        due.sentence("Terms", "SCORE: WORTHS of all PLANS DONE, together.");
        due.is("no PLANS", Glass.night(4).watch(0, 0), 0);
        SharedNights x = Glass.night(5);
        for (int p = 0; p < 5; p++) {
            Glass.plan(x, Glass.told(0, 0, 99, ALL));
            due.is("DONE " + (p + 1), x.watch(0, 1), 99 * (p + 1));
        }
        x.slots(4);
        due.is("four SLOTS", x.watch(0, 1), 396);
        SharedNights y = Glass.night(4, Glass.told(0, 0, 9, ALL + ", wait 6 to 6, " + ALL));
        due.is("STEP 0 alone is nothing", y.watch(0, 1), 0);
        due.is("WAITING at the end", y.state(0, 1, 0, 4), 1);
        SharedNights z = Glass.night(4, Glass.told(0, 0, 9, Glass.step(4)));
        z.seeing(1, 3, 4);
        due.is("SPOILT in the last SLOT", z.watch(0, 1), 0);
    }

    // ---- Terms: WORLDS

    private static void worldsFourAtMost() {
        due.sentence("Terms", "WORLDS (4 at most) are SKIES with WEIGHTS (1 .. 9; as a WORLD is told it is as FORECAST is then).");
        SharedNights x = Glass.night(4, Glass.told(0, 0, 7, ALL));
        for (int world = 0; world <= 4; world++) {
            due.is("WORLDS", x.count(4), world);
            due.is("no SKY behind them", x.watch(0, 2 + world), -2);
            // Each is told with one SLOT more shut; FORECAST goes on without them.
            due.is("world " + world, x.world(1), world < 4 ? world : -5);
            if (world < 4) {
                x.seeing(0, world, 4);
            }
        }
        for (int world = 0; world < 4; world++) {
            for (int slot = 0; slot < 4; slot++) {
                int entry = slot < world ? 21 : slot == world ? 0 : 22;
                due.is("WORLD " + world + ", SLOT " + slot, x.log(0, 2 + world, slot), entry);
            }
        }
        due.is("FORECAST is shut", x.watch(0, 0), 0);
        due.is("SURE", x.sure(0), 7);
    }

    private static void weightsLeastAndMost() {
        due.sentence("Terms", "WEIGHTS (1 .. 9;");
        for (int weight = -1; weight <= 11; weight++) {
            SharedNights x = Glass.night(4, Glass.told(0, 0, 1, ALL));
            boolean good = weight >= 1 && weight <= 9;
            due.is("weight " + weight, x.world(weight), good ? 0 : -3);
            due.is("WORLDS", x.count(4), good ? 1 : 0);
            if (good) {
                // Beside a WORLD of weight 1 in which nothing is done.
                x.world(1);
                shutWorld(x, 3);
                due.is("it weighs, above", x.value(0, 0), weight);
                due.is("it weighs, below", x.value(0, 1), weight + 1);
            }
        }
    }

    private static void worldsAndWeights() {
        due.sentence("Terms", "VALUE of a RULE: WEIGHTS times SCORES in all WORLDS, together, by all WEIGHTS, as a fraction; "
                + "none without WORLDS.");
        SharedNights x = Glass.night(4, Glass.told(0, 0, 7, ALL));
        due.is("no WORLDS, above", x.value(0, 0), -1);
        due.is("no WORLDS, below", x.value(0, 1), -1);
        for (int weight = 1; weight <= 9; weight++) {
            x.world(weight);
            due.is("one WORLD, above", x.value(0, 0), 7);
            due.is("one WORLD, below", x.value(0, 1), 1);
            x.unworld();
        }
        x.world(9);
        x.world(9);
        x.world(9);
        x.world(8);
        shutWorld(x, 2);
        shutWorld(x, 3);
        shutWorld(x, 4);
        due.is("8 times 7 by 35, above", x.value(0, 0), 8);
        due.is("8 times 7 by 35, below", x.value(0, 1), 5);
        x.worth(0, 1);
        due.is("8 by 35, above", x.value(1, 0), 8);
        due.is("8 by 35, below", x.value(1, 1), 35);
        shutWorld(x, 5);
        due.is("0 by 35, above", x.value(2, 0), 0);
        due.is("0 by 35, below", x.value(2, 1), 1);
    }

    private static void shutWorld(SharedNights x, int sky) {
        for (int slot = 0; slot < x.count(0); slot++) {
            x.seeing(sky, slot, 4);
        }
    }

    private static void valueOfMost() {
        due.sentence("Promise 27", "VALUE of a RULE in lowest terms: what is above (part 0), below (1)");
        SharedNights x = Glass.night(5);
        for (int p = 0; p < 5; p++) {
            Glass.plan(x, Glass.told(0, 0, 99, ALL));
        }
        for (int world = 0; world < 4; world++) {
            x.world(9);
        }
        due.is("the most, above", x.value(0, 0), 495);
        due.is("the most, below", x.value(0, 1), 1);
        x.seeing(2, 0, 4);
        due.is("the most less 99 of four, above", x.value(0, 0), 4 * 495 - 99);
        due.is("the most less 99 of four, below", x.value(0, 1), 4);
        x.unworld();
        x.world(1);
        x.seeing(2, 4, 4);
        x.world(9);
        due.is("(396 + 9 times 495) by 10, above", x.value(0, 0), 4851);
        due.is("(396 + 9 times 495) by 10, below", x.value(0, 1), 10);
    }

    /** In NIGHT 1: TARGET 0 has AIR 0 in SLOT 0 and stays long, TARGET 1 has AIR 1 in SLOT 0 and is gone then. */
    private static SharedNights settingNight(int worth0, int worth1) {
        SharedNights x = new SharedNights();
        x.slots(4);
        x.target(1, 8, 0);
        x.target(0, 1, 0);
        x.close(0);
        Glass.plan(x, Glass.told(0, 0, worth0, ALL));
        Glass.plan(x, Glass.told(0, 1, worth1, ALL));
        x.world(1);
        return x;
    }

    private static void bestRule(String what, SharedNights x, int value0, int value1, int value2, int rule) {
        int[] values = {value0, value1, value2};
        for (int r = 0; r < 3; r++) {
            due.is("VALUE of RULE " + r + ", " + what, x.value(r, 0), values[r]);
        }
        due.is("BEST RULE, " + what, x.rule(), rule);
    }

    private static void bestRuleOfEach() {
        due.sentence("Terms", "BEST RULE: that with the greatest VALUE, of several the least.");
        bestRule("RULE 2 alone", settingNight(9, 5), 9, 9, 14, 2);
        bestRule("RULES 0 and 2", settingNight(5, 9), 14, 5, 14, 0);
        SharedNights all = settingNight(5, 9);
        all.drop(0);
        bestRule("all alike", all, 9, 9, 9, 0);
        all.drop(0);
        bestRule("all nothing", all, 0, 0, 0, 0);
        // PLAN 1 must be in SLOT 0, which is clear, and has the least AIR there; PLAN 0 is worth more and sets first.
        SharedNights x = new SharedNights();
        x.slots(6);
        x.target(1, 2, 0);
        x.target(0, 8, 0);
        Glass.plan(x, Glass.told(0, 0, 9, ALL));
        Glass.plan(x, Glass.told(0, 1, 5, "expose 1 seeing 0 air 8"));
        x.seeing(0, 0, 0);
        x.world(4);
        bestRule("RULE 1 alone", x, 9, 14, 9, 1);
        SharedNights y = new SharedNights();
        y.slots(4);
        y.target(2, 8, 0);
        y.target(0, 0, 0);
        Glass.plan(y, Glass.told(0, 0, 9, ALL));
        Glass.plan(y, Glass.told(0, 1, 5, ALL));
        y.world(3);
        bestRule("RULES 1 and 2", y, 9, 14, 14, 1);
        y.worth(1, 10);
        bestRule("all alike by WORTH", y, 19, 19, 19, 0);
    }

    private static void sureIsLeast() {
        due.sentence("Terms", "SURE of a RULE: the least SCORE in any WORLD.");
        for (int least = 0; least < 4; least++) {
            SharedNights x = Glass.night(4, Glass.told(0, 0, 7, ALL), Glass.told(0, 0, 4, ALL));
            for (int world = 0; world < 4; world++) {
                x.world(world == least ? 1 : 9);
            }
            for (int rule = 0; rule < 3; rule++) {
                due.is("all alike", x.sure(rule), 11);
            }
            for (int slot = 1; slot < 4; slot++) {
                x.seeing(2 + least, slot, 4);
            }
            due.is("one SLOT in WORLD " + least, x.sure(0), 7);
            x.seeing(2 + least, 0, 4);
            due.is("nothing in WORLD " + least, x.sure(0), 0);
        }
    }

    // ---- promises

    private static void againRefused() {
        due.sentence("Promise 23", "AGAIN: that which it was. OUTSIDE.");
        SharedNights x = new SharedNights();
        for (int now = 0; now <= 1; now++) {
            for (int v : Glass.beyond(0, 1)) {
                due.is("again " + v, x.again(v), -3);
            }
            due.is("that which it was", x.again(1), now);
        }
        due.is("1 then", x.again(0), 1);
        due.is("0 then", x.again(0), 0);
    }

    private static void watchRefused() {
        due.sentence("Promise 24", "A WATCH by a RULE and a SKY (as seeing()): SCORE. UNKNOWN: sky; OUTSIDE.");
        SharedNights x = Glass.night(4, Glass.told(0, 0, 7, ALL));
        for (int worlds = 0; worlds <= 4; worlds++) {
            due.is("the greatest sky", x.watch(2, 1 + worlds), 7);
            for (int sky : Glass.beyond(0, 1 + worlds)) {
                due.is("sky " + sky + " with WORLDS " + worlds, x.watch(0, sky), -2);
                due.is("sky " + sky + " and no RULE", x.watch(3, sky), -2);
            }
            for (int rule : Glass.beyond(0, 2)) {
                due.is("RULE " + rule, x.watch(rule, 1 + worlds), -3);
            }
            x.world(1);
        }
        for (int sky = 0; sky < 6; sky++) {
            shutWorld(x, sky);
            due.is("by its own SKY", x.watch(0, sky), 0);
            due.is("not by the next", x.watch(0, sky + 1), sky < 5 ? 7 : -2);
        }
    }

    private static void logRefused() {
        due.sentence("Promise 25", "THE LOG of that WATCH in a SLOT. UNKNOWN: SLOT, sky; OUTSIDE.");
        SharedNights x = Glass.night(12, Glass.told(0, 0, 7, ALL));
        for (int slot : Glass.beyond(0, 11)) {
            due.is("SLOT " + slot, x.log(0, 1, slot), -2);
            due.is("SLOT " + slot + " and no RULE", x.log(3, 1, slot), -2);
            due.is("SLOT " + slot + " and no sky", x.log(0, 2, slot), -2);
        }
        for (int sky : Glass.beyond(0, 1)) {
            due.is("sky " + sky, x.log(0, sky, 0), -2);
            due.is("sky " + sky + " and no RULE", x.log(-1, sky, 0), -2);
        }
        for (int rule : Glass.beyond(0, 2)) {
            due.is("RULE " + rule, x.log(rule, 1, 11), -3);
        }
        due.is("the first SLOT", x.log(0, 1, 0), 0);
        due.is("the last SLOT", x.log(2, 1, 11), 22);
    }

    private static void stateBounds() {
        due.sentence("Promise 26", "Of a PLAN behind the first n SLOTS (0 .. N) of that WATCH: the STEP for which it is WAITING (or that goes "
                + "on); 8 DONE; 9 LOST.");
        for (int n = 4; n <= 12; n++) {
            SharedNights x = Glass.night(n, Glass.told(0, 0, 7, Glass.step(3) + ", wait 0 to 0, " + ALL));
            due.is("behind none", x.state(0, 1, 0, 0), 0);
            due.is("STEP 0 goes on", x.state(0, 1, 0, 2), 0);
            due.is("STEP 1", x.state(0, 1, 0, 3), 1);
            due.is("behind all of " + n, x.state(0, 1, 0, n), 8);
            due.is("behind one more than all", x.state(0, 1, 0, n + 1), -3);
            due.is("behind one less than none", x.state(0, 1, 0, -1), -3);
            x.seeing(1, 2, 4);
            due.is("LOST behind all of " + n, x.state(0, 1, 0, n), 9);
        }
        SharedNights x = Glass.night(4, Glass.told(0, 0, 7, ALL + ", wait 0 to 0, " + Glass.step(3)));
        states("STEP 1 goes on to the last SLOT", x, 0, 0, 1, 1, 1, 8);
    }

    private static void stateRefused() {
        due.sentence("Promise 26", "UNKNOWN: PLAN, sky; OUTSIDE.");
        SharedNights x = Glass.night(10);
        due.is("no PLANS", x.state(0, 1, 0, 0), -2);
        for (int p = 0; p < 5; p++) {
            Glass.plan(x, Glass.told(0, 0, 7, ALL));
            for (int wrong : Glass.beyond(0, p)) {
                due.is("PLAN " + wrong, x.state(0, 1, wrong, 0), -2);
                due.is("PLAN " + wrong + ", no RULE", x.state(3, 1, wrong, 0), -2);
                due.is("PLAN " + wrong + ", no n", x.state(0, 1, wrong, 11), -2);
            }
        }
        for (int sky : Glass.beyond(0, 1)) {
            due.is("sky " + sky, x.state(0, sky, 0, 0), -2);
            due.is("sky " + sky + ", no RULE, no n", x.state(-1, sky, 0, -1), -2);
        }
        for (int rule : Glass.beyond(0, 2)) {
            due.is("RULE " + rule, x.state(rule, 1, 4, 10), -3);
        }
        for (int n : Glass.beyond(0, 10)) {
            due.is("n " + n, x.state(2, 1, 4, n), -3);
        }
    }

    private static void valueRefused() {
        due.sentence("Promise 27", "NONE: there are no WORLDS. OUTSIDE.");
        SharedNights x = Glass.night(4, Glass.told(0, 0, 7, ALL));
        for (int worlds = 0; worlds <= 1; worlds++) {
            for (int rule : Glass.beyond(0, 2)) {
                due.is("RULE " + rule, x.value(rule, 0), -3);
            }
            for (int part : Glass.beyond(0, 1)) {
                due.is("part " + part, x.value(0, part), -3);
            }
            for (int rule = 0; rule < 3; rule++) {
                due.is("above, WORLDS " + worlds, x.value(rule, 0), worlds == 0 ? -1 : 7);
                due.is("below, WORLDS " + worlds, x.value(rule, 1), worlds == 0 ? -1 : 1);
            }
            x.world(9);
        }
    }

    private static void sureRefused() {
        due.sentence("Promise 28", "SURE of a RULE; NONE: there are no WORLDS. OUTSIDE.");
        SharedNights x = Glass.night(4, Glass.told(0, 0, 7, ALL));
        for (int worlds = 0; worlds <= 1; worlds++) {
            for (int rule : Glass.beyond(0, 2)) {
                due.is("RULE " + rule, x.sure(rule), -3);
            }
            for (int rule = 0; rule < 3; rule++) {
                due.is("SURE, WORLDS " + worlds, x.sure(rule), worlds == 0 ? -1 : 7);
            }
            x.world(9);
        }
        x.unworld();
        due.is("no WORLDS any more", x.sure(0), -1);
    }

    private static void ruleNone() {
        due.sentence("Promise 29", "BEST RULE; NONE: there are no WORLDS.");
        SharedNights x = new SharedNights();
        due.is("no WORLDS", x.rule(), -1);
        for (int world = 0; world < 4; world++) {
            x.world(1);
            due.is("WORLDS, no PLANS", x.rule(), 0);
        }
        x.unworld();
        due.is("no WORLDS any more", x.rule(), -1);
        x.world(1);
        x.slots(10);
        due.is("no WORLDS behind slots", x.rule(), -1);
    }
}
