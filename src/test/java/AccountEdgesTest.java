/** The bounds that the document names for SHARES, accounts and DEBTS: Terms 7, promises 31 to 36. */
public final class AccountEdgesTest {
    private static final Due due = new Due("AccountEdgesTest");
    private static final String ALL = Glass.step(1);

    private AccountEdgesTest() {
    }

    public static void main(String[] args) {
        sharesLeastAndMost();
        usedAlsoSpoilt();
        otherSlots();
        byTrueSky();
        donePlansAreNoMore();
        renewed();
        clock();
        debtOfNothing();
        debtOfMost();
        nextOfSeveral();
        shareRefused();
        closeScore();
        closeRefused();
        lastNight();
        accountRefused();
        debtRefused();
        nextAtFirst();
        countNoneAndMost();
        countRefused();
        due.end();
    }

    private static String told(int land, int instrument, int worth, String steps) {
        return "land " + land + " with " + instrument + " at 0 worth " + worth + " : " + steps;
    }

    private static void accounts(String what, SharedNights x, int... sums) {
        for (int i = 0; i < 8; i++) {
            due.is("account " + i + ", " + what, x.account(i), sums[i]);
        }
    }

    // ---- Terms

    private static void sharesLeastAndMost() {
        due.sentence("Terms", "SHARES of LANDS are 1 .. 20 (1 each at first).");
        SharedNights x = new SharedNights();
        for (int land = 0; land < 4; land++) {
            due.is("SHARE at first", x.share(land, 20), 1);
            due.is("the greatest", x.share(land, 1), 20);
            due.is("the least", x.share(land, 0), -3);
            due.is("one above the greatest", x.share(land, 21), -3);
            due.is("it stays", x.share(land, 1), 1);
        }
    }

    private static void usedAlsoSpoilt() {
        due.sentence("Terms", "each SLOT of THE LOG with a PLAN (also SPOILT) is USED by its LAND");
        for (int land = 0; land < 4; land++) {
            SharedNights x = Glass.night(4, told(land, 0, 9, Glass.step(4)));
            x.close(0);
            for (int other = 0; other < 4; other++) {
                due.is("USED by LAND " + other, x.account(other), other == land ? 4 : 0);
            }
            SharedNights y = Glass.night(4, told(land, 0, 9, Glass.step(4)));
            y.seeing(1, 3, 4);
            due.is("SPOILT in its last SLOT", y.close(0), 0);
            due.is("USED by LAND " + land, y.account(land), 4);
            due.is("nothing is SHUT", y.account(5), 0);
        }
        // PLAN 4, SPOILT, is 14 in THE LOG.
        SharedNights z = Glass.night(6);
        for (int p = 0; p < 5; p++) {
            Glass.plan(z, told(p % 4, 0, 9, p < 4 ? ALL : Glass.step(2)));
        }
        z.seeing(1, 5, 4);
        due.is("PLAN 4 is SPOILT", z.log(0, 1, 5), 14);
        z.close(0);
        accounts("five PLANS", z, 3, 1, 1, 1, 0, 0, 0, 6);
    }

    private static void otherSlots() {
        due.sentence("Terms", "other SLOTS are CHANGE, SHUT, IDLE");
        SharedNights x = Glass.night(4);
        x.close(0);
        accounts("all IDLE", x, 0, 0, 0, 0, 0, 0, 4, 4);
        for (int slot = 0; slot < 4; slot++) {
            x.seeing(1, slot, 4);
        }
        x.close(0);
        accounts("all SHUT", x, 0, 0, 0, 0, 0, 4, 4, 8);
        for (int slot = 0; slot < 4; slot++) {
            x.seeing(1, slot, 3);
        }
        x.close(0);
        accounts("SEEING 3 is IDLE", x, 0, 0, 0, 0, 0, 4, 8, 12);
        Glass.plan(x, told(3, 2, 9, ALL));
        x.seeing(1, 3, 4);
        x.close(0);
        accounts("one of each", x, 0, 0, 0, 1, 1, 5, 9, 16);
    }

    private static void byTrueSky() {
        due.sentence("Terms", "THE NIGHT is CLOSED with a RULE, by TRUE SKY");
        SharedNights x = Glass.night(4, told(0, 0, 9, ALL));
        for (int slot = 0; slot < 4; slot++) {
            x.seeing(0, slot, 4);
        }
        x.world(1);
        due.is("FORECAST is shut", x.watch(0, 0), 0);
        due.is("a WORLD is shut", x.watch(0, 2), 0);
        due.is("close", x.close(0), 9);
        accounts("by TRUE SKY", x, 1, 0, 0, 0, 0, 0, 3, 4);
        // By RULE 0 PLAN 0 is first, by RULES 1 and 2 PLAN 1, which is gone then.
        for (int rule = 0; rule < 3; rule++) {
            SharedNights y = new SharedNights();
            y.slots(4);
            y.target(2, 8, 0);
            y.target(0, 0, 0);
            Glass.plan(y, Glass.told(0, 0, 9, ALL));
            Glass.plan(y, Glass.told(0, 1, 5, ALL));
            due.is("close by RULE " + rule, y.close(rule), rule == 0 ? 9 : 14);
            due.is("PLANS left by RULE " + rule, y.count(3), rule == 0 ? 1 : 0);
        }
    }

    /** Each PLAN of five is DONE or not, in each of 32 ways. */
    private static void donePlansAreNoMore() {
        due.sentence("Terms", "PLANS that are DONE are no more (those behind them get numbers less)");
        for (int done = 0; done < 32; done++) {
            SharedNights x = Glass.night(5);
            int worth = 0;
            for (int p = 0; p < 5; p++) {
                boolean is = (done >> p & 1) == 1;
                worth += is ? 10 + p : 0;
                Glass.plan(x, told(0, 0, 10 + p, is ? ALL : "expose 1 seeing 0 air 8"));
            }
            due.is("close", x.close(0), worth);
            due.is("PLANS left", x.count(3), 5 - Integer.bitCount(done));
            int next = 0;
            for (int p = 0; p < 5; p++) {
                if ((done >> p & 1) == 0) {
                    due.is("WORTH of PLAN " + next + " then", x.told(next, 3), 10 + p);
                    next++;
                }
            }
            due.is("none behind them", x.told(next, 3), -2);
        }
        SharedNights x = Glass.night(4, told(0, 0, 9, Glass.step(2)));
        x.seeing(1, 1, 4);
        due.is("a LOST PLAN", x.close(0), 0);
        due.is("it stays", x.count(3), 1);
        due.is("it begins anew", x.close(0), 9);
        due.is("it is no more", x.count(3), 0);
    }

    private static void renewed() {
        due.sentence("Terms", "TONIGHT is one more; THE MOON is gone, TRUE SKY and FORECAST are 1 everywhere.");
        SharedNights x = Glass.night(12);
        x.moon(0, 0, 11);
        for (int slot = 0; slot < 12; slot++) {
            x.seeing(0, slot, 4);
            x.seeing(1, slot, 4);
        }
        due.is("BRIGHT and shut", x.alert(0, 0, 1381, 0, 11, 0), -1);
        x.close(0);
        due.is("TONIGHT", x.count(1), 1);
        for (int slot = 0; slot < 12; slot++) {
            due.is("dark in SLOT " + slot, x.alert(0, 0, 1181, slot, slot, 0), slot);
            due.is("FORECAST in SLOT " + slot, x.seeing(0, slot, 1), 1);
            due.is("TRUE SKY in SLOT " + slot, x.seeing(1, slot, 1), 1);
        }
        due.is("N stays", x.count(0), 12);
    }

    private static void clock() {
        due.sentence("Terms", "CLOCK: all SLOTS of NIGHTS that were CLOSED.");
        SharedNights x = new SharedNights();
        x.target(5, 8, 0);
        int clock = 0;
        due.is("CLOCK at first", x.account(7), 0);
        for (int n = 4; n <= 12; n++) {
            x.slots(n);
            due.is("CLOCK stays with slots", x.account(7), clock);
            Glass.plan(x, told(n % 4, n % 3, 9, Glass.step(n % 4 + 1)));
            x.seeing(1, n - 1, 4);
            due.is("a refused close", x.close(3), -3);
            due.is("CLOCK stays then", x.account(7), clock);
            x.close(n % 3);
            clock += n;
            due.is("CLOCK", x.account(7), clock);
            int sum = 0;
            for (int what = 0; what < 7; what++) {
                sum += x.account(what);
            }
            due.is("all others sum to it", sum, clock);
        }
    }

    private static void debtOfNothing() {
        due.sentence("Terms", "DEBT of a LAND: its SHARE times what all LANDS USED together, less all SHARES together times what it USED.");
        SharedNights x = new SharedNights();
        for (int land = 0; land < 4; land++) {
            x.share(land, 20 - land);
            due.is("nothing is USED", x.debt(land), 0);
        }
        x.close(0);
        for (int land = 0; land < 4; land++) {
            due.is("an IDLE NIGHT", x.debt(land), 0);
        }
    }

    /** A chain as long as the NIGHT, SPOILT in its last SLOT: it USED all of it and stays for the next one. */
    private static void debtOfMost() {
        due.sentence("Terms", "its SHARE times what all LANDS USED together, less all SHARES together times what it USED");
        SharedNights x = new SharedNights();
        x.slots(12);
        String step = "expose 4 seeing 1 air 8";
        for (int night = 0; night < 36; night++) {
            if (night % 6 == 0) {
                // VISIBLE in each of the twelve SLOTS for six NIGHTS.
                int target = x.target(8 + night, 8, 0);
                x.drop(0);
                Glass.plan(x, "land 2 with 0 at " + target + " worth 1:" + step + ",wait 0 to 0," + step + ",wait 0 to 0," + step);
            }
            x.seeing(1, 11, 4);
            due.is("close NIGHT " + night, x.close(0), 0);
        }
        int used = 36 * 12;
        due.is("USED by LAND 2", x.account(2), used);
        due.is("CLOCK", x.account(7), used);
        due.is("DEBT of the one, SHARES 1", x.debt(2), used - 4 * used);
        due.is("DEBT of another, SHARES 1", x.debt(3), used);
        for (int land = 0; land < 4; land++) {
            x.share(land, 20);
        }
        due.is("DEBT of the one, SHARES 20", x.debt(2), 20 * used - 80 * used);
        due.is("DEBT of another, SHARES 20", x.debt(0), 20 * used);
        x.share(2, 1);
        due.is("DEBT of the one, SHARE 1 of 61", x.debt(2), used - 61 * used);
        int sum = 0;
        for (int land = 0; land < 4; land++) {
            sum += x.debt(land);
        }
        due.is("DEBTS sum to 0", sum, 0);
    }

    private static void nextOfSeveral() {
        due.sentence("Terms", "NEXT LAND: that with the greatest DEBT, of several the least.");
        for (int used = 0; used < 4; used++) {
            SharedNights x = Glass.night(4, told(used, 0, 9, Glass.step(4)));
            x.close(0);
            due.is("LAND " + used + " has USED all", x.next(), used == 0 ? 1 : 0);
            for (int land = 3; land >= 0; land--) {
                x.share(land, 2);
                // LANDS land .. 3 have SHARE 2: the least of them that has USED nothing, if there is one.
                int first = land != used ? land : land + 1;
                int without = used == 0 ? 1 : 0;
                due.is("SHARES 2 from LAND " + land + " on, USED by " + used, x.next(), first < 4 ? first : without);
            }
        }
        // All have USED as much as they should: all DEBTS are 0.
        SharedNights y = Glass.night(4, told(3, 0, 9, ALL), told(2, 0, 9, ALL), told(1, 0, 9, ALL), told(0, 0, 9, ALL));
        y.close(0);
        for (int land = 0; land < 4; land++) {
            due.is("DEBT of LAND " + land, y.debt(land), 0);
        }
        due.is("all alike", y.next(), 0);
        y.share(3, 2);
        due.is("LAND 3 by its SHARE", y.next(), 3);
    }

    // ---- promises

    private static void shareRefused() {
        due.sentence("Promise 31", "SHARE of a LAND: that which it was. UNKNOWN; OUTSIDE.");
        SharedNights x = new SharedNights();
        for (int land : Glass.beyond(0, 3)) {
            due.is("LAND " + land, x.share(land, 5), -2);
            due.is("LAND " + land + " and SHARE 0", x.share(land, 0), -2);
            due.is("LAND " + land + " and SHARE 21", x.share(land, 21), -2);
        }
        for (int land = 0; land < 4; land++) {
            for (int v : Glass.beyond(1, 20)) {
                due.is("SHARE " + v, x.share(land, v), -3);
            }
            due.is("it stays", x.share(land, 7), 1);
            due.is("that which it was", x.share(land, 20), 7);
        }
    }

    private static void closeScore() {
        due.sentence("Promise 32", "THE NIGHT is CLOSED: SCORE.");
        SharedNights x = Glass.night(5);
        due.is("no PLANS", x.close(0), 0);
        for (int p = 0; p < 5; p++) {
            Glass.plan(x, told(0, 0, 99, ALL));
        }
        due.is("the most", x.close(2), 495);
        due.is("no PLANS are left", x.count(3), 0);
        due.is("WORTH of all", x.count(6), 495);
        due.is("nothing more", x.close(1), 0);
        due.is("WORTH of all stays", x.count(6), 495);
    }

    private static void closeRefused() {
        due.sentence("Promise 32", "OUTSIDE: rule; NOT: TONIGHT is 300.");
        SharedNights x = Glass.night(4, told(0, 0, 9, ALL));
        x.seeing(1, 0, 4);
        for (int rule : Glass.beyond(0, 2)) {
            due.is("RULE " + rule, x.close(rule), -3);
            due.is("TONIGHT stays", x.count(1), 0);
            due.is("the PLAN stays", x.count(3), 1);
            due.is("TRUE SKY stays", x.seeing(1, 0, 4), 4);
            due.is("CLOCK stays", x.account(7), 0);
        }
        for (int rule = 0; rule < 3; rule++) {
            due.is("RULE " + rule, x.close(rule), rule == 0 ? 9 : 0);
        }
        due.is("three NIGHTS", x.count(1), 3);
    }

    /** An object in its last NIGHT, with a PLAN that a NIGHT more would do. */
    private static SharedNights inLastNight() {
        SharedNights x = new SharedNights();
        x.slots(12);
        for (int night = 0; night < 299; night++) {
            x.close(night % 3);
        }
        return x;
    }

    private static void lastNight() {
        due.sentence("Promise 32", "NOT: TONIGHT is 300.");
        SharedNights x = inLastNight();
        due.is("TONIGHT 299", x.count(1), 299);
        due.is("close it", x.close(0), 0);
        due.is("TONIGHT 300", x.count(1), 300);
        x.target(40, 8, 0);
        x.seeing(1, 0, 4);
        x.moon(0, 0, 0);
        Glass.plan(x, told(0, 0, 9, ALL));
        for (int rule = 0; rule < 3; rule++) {
            due.is("close by RULE " + rule, x.close(rule), -4);
        }
        for (int rule : Glass.beyond(0, 2)) {
            due.is("OUTSIDE ahead of NOT, RULE " + rule, x.close(rule), -3);
        }
        due.is("TONIGHT stays", x.count(1), 300);
        due.is("CLOCK stays", x.account(7), 3600);
        due.is("IDLE stays", x.account(6), 3600);
        due.is("TRUE SKY stays", x.seeing(1, 0, 4), 4);
        due.is("the PLAN stays", x.count(3), 1);
        due.is("a WATCH can still be gone through", x.log(0, 1, 0), 21);
        due.is("the TARGET is long set", x.air(0, 0), -1);
        due.is("no PLACEMENTS", x.placements(0), 0);
        due.is("slots can still be told", x.slots(4), 12);
        due.is("not then, too", x.close(0), -4);
    }

    private static void accountRefused() {
        due.sentence("Promise 33", "SLOTS: 0 .. 3 USED by LANDS, 4 CHANGE, 5 SHUT, 6 IDLE, 7 CLOCK. OUTSIDE.");
        SharedNights x = new SharedNights();
        accounts("at first", x, 0, 0, 0, 0, 0, 0, 0, 0);
        for (int what : Glass.beyond(0, 7)) {
            due.is("account " + what, x.account(what), -3);
        }
        SharedNights y = Glass.night(12, told(0, 0, 9, ALL), told(1, 0, 8, Glass.step(2)), told(2, 0, 7, Glass.step(3)), told(3, 1, 6, ALL));
        y.seeing(1, 10, 4);
        y.seeing(1, 11, 4);
        y.close(0);
        accounts("each of its own", y, 1, 2, 3, 1, 1, 2, 2, 12);
    }

    private static void debtRefused() {
        due.sentence("Promise 34", "DEBT of a LAND. The least int: UNKNOWN.");
        SharedNights x = Glass.night(4, told(0, 0, 9, Glass.step(2)));
        x.close(0);
        for (int land : Glass.beyond(0, 3)) {
            due.is("LAND " + land, x.debt(land), Integer.MIN_VALUE);
        }
        due.is("LAND 0", x.debt(0), 2 - 8);
        due.is("LAND 3", x.debt(3), 2);
    }

    private static void nextAtFirst() {
        due.sentence("Promise 35", "NEXT LAND.");
        SharedNights x = new SharedNights();
        due.is("at first", x.next(), 0);
        x.share(3, 20);
        due.is("with nothing USED a SHARE is nothing", x.next(), 0);
        x.close(0);
        due.is("behind an IDLE NIGHT", x.next(), 0);
    }

    private static void countNoneAndMost() {
        due.sentence("Promise 36", "0 N, 1 TONIGHT, 2 TARGETS, 3 PLANS, 4 WORLDS, 5 bytes of THE TEXT, 6 WORTH of all PLANS DONE in CLOSED "
                + "NIGHTS.");
        int[] none = {10, 0, 0, 0, 0, 0, 0};
        for (int what = 0; what < 7; what++) {
            due.is("count " + what + " at first", new SharedNights().count(what), none[what]);
        }
        SharedNights x = Glass.night(12, told(0, 0, 99, ALL));
        x.close(0);
        for (int p = 0; p < 5; p++) {
            Glass.plan(x, told(0, 0, 98, "expose 1 seeing 0 air 8"));
        }
        for (int t = 1; t < 8; t++) {
            x.target(0, 0, 0);
        }
        for (int world = 0; world < 4; world++) {
            x.world(1);
        }
        Glass.write(x, " ".repeat(160));
        int[] most = {12, 1, 8, 5, 4, 160, 99};
        for (int what = 0; what < 7; what++) {
            due.is("count " + what + " of the most", x.count(what), most[what]);
        }
        due.is("the PLANS are not DONE in a WATCH alone", x.watch(0, 1), 0);
        x.close(0);
        due.is("WORTH stays", x.count(6), 99);
        due.is("TONIGHT", x.count(1), 2);
    }

    private static void countRefused() {
        due.sentence("Promise 36", "6 WORTH of all PLANS DONE in CLOSED NIGHTS. OUTSIDE.");
        for (int what : Glass.beyond(0, 6)) {
            due.is("count " + what, new SharedNights().count(what), -3);
        }
        SharedNights x = Glass.night(4, told(0, 0, 7, ALL), told(0, 0, 99, "expose 1 seeing 0 air 8"));
        due.is("a WATCH closes nothing", x.watch(0, 1), 7);
        due.is("nothing is DONE", x.count(6), 0);
        x.close(0);
        due.is("what is DONE", x.count(6), 7);
        x.drop(0);
        due.is("a PLAN that is dropped is not", x.count(6), 7);
    }
}
