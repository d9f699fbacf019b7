/** Promises 31 to 36: share, close, account, debt, next, count. */
public final class AccountsTest {
    private static final Due due = new Due("AccountsTest");
    private static final String STEP = "expose 1 seeing 1 air 8";

    private AccountsTest() {
    }

    public static void main(String[] args) {
        share();
        close();
        closeBySpoiltAndShut();
        closeRenewsTheNight();
        donePlansGo();
        lastNight();
        debtsAndNext();
        wrong();
        due.end();
    }

    private static void share() {
        SharedNights x = new SharedNights();
        due.is("SHARE 20", x.share(0, 20), 1);
        due.is("SHARE 1", x.share(0, 1), 20);
        due.is("SHARE 0", x.share(0, 0), -3);
        due.is("SHARE 21", x.share(3, 21), -3);
        due.is("SHARE of LAND 4", x.share(4, 5), -2);
        due.is("SHARE of LAND -1", x.share(-1, 0), -2);
        due.is("SHARE behind refusals", x.share(0, 2), 1);
        due.is("SHARE of LAND 3", x.share(3, 2), 1);
    }

    private static void accounts(SharedNights x, int... sums) {
        for (int what = 0; what < 8; what++) {
            due.is("account " + what, x.account(what), sums[what]);
        }
        due.is("account -1", x.account(-1), -3);
        due.is("account 8", x.account(8), -3);
    }

    private static SharedNights two() {
        SharedNights x = Glass.withTargets(1);
        Glass.plan(x, "land 0 with 0 at 0 worth 9: expose 2 seeing 1 air 8, wait 1 to 1, " + STEP);
        Glass.plan(x, "land 1 with 1 at 0 worth 5: " + STEP);
        return x;
    }

    private static void close() {
        SharedNights x = two();
        accounts(x, 0, 0, 0, 0, 0, 0, 0, 0);
        // THE LOG: 0 0 20 20 20 1 22 22 22 22
        due.is("close", x.close(0), 5);
        accounts(x, 2, 1, 0, 0, 3, 0, 4, 10);
        due.is("TONIGHT", x.count(1), 1);
        due.is("WORTH of all DONE", x.count(6), 5);
        due.is("the LOST PLAN stays", x.count(3), 1);
        due.is("it is as it was", x.told(0, 3), 9);
        due.is("it is WAITING anew", x.state(0, 1, 0, 0), 0);
        due.is("close the next", x.close(0), 9);
        // THE LOG: 0 0 22 0 22 22 22 22 22 22
        accounts(x, 5, 1, 0, 0, 3, 0, 11, 20);
        due.is("WORTH of both NIGHTS", x.count(6), 14);
        due.is("no PLANS", x.count(3), 0);
        x.slots(4);
        due.is("close an idle NIGHT", x.close(2), 0);
        accounts(x, 5, 1, 0, 0, 3, 0, 15, 24);
    }

    private static void closeBySpoiltAndShut() {
        SharedNights x = two();
        x.seeing(0, 0, 4);
        x.seeing(1, 1, 4);
        x.seeing(1, 9, 4);
        // THE LOG: 0 10 20 1 22 22 22 22 22 21
        due.is("close by TRUE SKY", x.close(0), 5);
        accounts(x, 2, 1, 0, 0, 1, 1, 5, 10);
    }

    private static void closeRenewsTheNight() {
        SharedNights x = Glass.withTargets(1);
        x.seeing(0, 3, 4);
        x.seeing(1, 4, 4);
        x.world(3);
        x.moon(0, 0, 9);
        x.again(1);
        x.share(2, 5);
        Glass.write(x, "land");
        Glass.plan(x, " 0 with 0 at 0 worth 9:expose 4 seeing 3 air 8 dark");
        due.is("close", x.close(0), 0);
        due.is("FORECAST 1", x.seeing(0, 3, 1), 1);
        due.is("TRUE SKY 1", x.seeing(1, 4, 1), 1);
        due.is("WORLDS stay", x.seeing(2, 3, 4), 4);
        due.is("THE MOON is gone", x.placements(0), 7);
        due.is("AGAIN stays", x.again(1), 1);
        due.is("SHARES stay", x.share(2, 5), 5);
        due.is("TARGETS stay", x.count(2), 1);
        due.is("the TARGET is a SLOT earlier", x.air(0, 4), 0);
        due.is("N stays", x.count(0), 10);
    }

    private static void donePlansGo() {
        SharedNights x = Glass.withTargets(1);
        for (int p = 0; p < 5; p++) {
            // PLANS 1 and 3 cannot be done: nothing is so clear.
            String step = p % 2 == 1 ? "expose 1 seeing 0 air 8" : STEP;
            Glass.plan(x, "land " + p % 4 + " with 0 at 0 worth " + (p + 1) + ": " + step);
        }
        due.is("close", x.close(0), 9);
        due.is("two are left", x.count(3), 2);
        due.is("PLAN 1 is the first", x.told(0, 3), 2);
        due.is("PLAN 3 is the second", x.told(1, 3), 4);
        due.is("used by LAND 0", x.account(0), 2);
        due.is("used by LAND 2", x.account(2), 1);
        due.is("room for more", Glass.plan(x, "land 0 with 0 at 0 worth 7: " + STEP), 2);
        due.is("it is as told", x.told(2, 3), 7);
    }

    private static void lastNight() {
        SharedNights x = new SharedNights();
        x.slots(12);
        x.target(40, 8, 0);
        for (int night = 0; night < 300; night++) {
            if (night == 30) {
                due.is("air in NIGHT 30", x.air(0, 11), 1);
            }
            x.close(night % 3);
        }
        due.is("TONIGHT 300", x.count(1), 300);
        due.is("no NIGHT behind it", x.close(0), -4);
        due.is("OUTSIDE ahead of NOT", x.close(3), -3);
        due.is("TONIGHT stays", x.count(1), 300);
        due.is("CLOCK", x.account(7), 3600);
        due.is("all IDLE", x.account(6), 3600);
        due.is("a TARGET long set", x.air(0, 0), -1);
        due.is("slots still", x.slots(4), 12);
        Glass.refused(due, "close at 300", AccountsTest::closeAll, y -> y.close(1), -4);
    }

    private static int closeAll(SharedNights x) {
        for (int night = 0; night < 300; night++) {
            x.close(0);
        }
        return x.count(1);
    }

    private static void debtsAndNext() {
        SharedNights x = two();
        due.is("NEXT LAND at first", x.next(), 0);
        due.is("DEBT at first", x.debt(3), 0);
        x.close(0);
        int[] debts = {-5, -1, 3, 3};
        for (int land = 0; land < 4; land++) {
            due.is("debt " + land, x.debt(land), debts[land]);
        }
        due.is("of several the least", x.next(), 2);
        x.share(3, 2);
        int[] later = {-7, -2, 3, 6};
        for (int land = 0; land < 4; land++) {
            due.is("debt " + land + " with another SHARE", x.debt(land), later[land]);
        }
        due.is("the greatest DEBT", x.next(), 3);
        x.share(0, 20);
        due.is("debt of a great SHARE", x.debt(0), 20 * 3 - 24 * 2);
        due.is("NEXT LAND by its SHARE", x.next(), 0);
        x.share(0, 1);
        x.share(1, 9);
        due.is("debt of LAND 1", x.debt(1), 9 * 3 - 13);
        due.is("NEXT LAND 1", x.next(), 1);
        due.is("debt of LAND 4", x.debt(4), Integer.MIN_VALUE);
        due.is("debt of LAND -1", x.debt(-1), Integer.MIN_VALUE);
    }

    private static void wrong() {
        SharedNights x = new SharedNights();
        due.is("count -1", x.count(-1), -3);
        due.is("count 7", x.count(7), -3);
        due.is("close by RULE -1", x.close(-1), -3);
        due.is("close by RULE 3", x.close(3), -3);
        Glass.Call rich = Nightful::make;
        Glass.refused(due, "share 0 21", rich, y -> y.share(0, 21), -3);
        Glass.refused(due, "share 4 1", rich, y -> y.share(4, 1), -2);
        Glass.refused(due, "close 3", rich, y -> y.close(3), -3);
        Glass.refused(due, "account 8", rich, y -> y.account(8), -3);
        Glass.refused(due, "debt 4", rich, y -> y.debt(4), Integer.MIN_VALUE);
        Glass.refused(due, "count 7", rich, y -> y.count(7), -3);
        SharedNights y = new SharedNights();
        Nightful.make(y);
        int[] counts = {9, 1, 1, 3, 2, 35, 4};
        for (int what = 0; what < 7; what++) {
            due.is("count " + what, y.count(what), counts[what]);
        }
    }
}
