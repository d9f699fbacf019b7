/** The bounds that the document names for ALERTS: Terms 6, promise 30. */
public final class AlertEdgesTest {
    private static final Due due = new Due("AlertEdgesTest");
    private static final String ALL = Glass.step(1);

    private AlertEdgesTest() {
    }

    public static void main(String[] args) {
        beginsFromTo();
        endsBehindTo();
        fitsByForecast();
        lossLeastAndMost();
        lossOfOtherInstruments();
        lossOfOneSet();
        leastLoss();
        none();
        needsAsDigits();
        needsAreUsed();
        unknown();
        outside();
        unknownFirst();
        due.end();
    }

    private static void alert(String what, SharedNights x, int instrument, int needs, int from, int to, int begin, int loss) {
        due.is("BEST BEGIN, " + what, x.alert(0, instrument, needs, from, to, 0), begin);
        due.is("its LOSS, " + what, x.alert(0, instrument, needs, from, to, 1), loss);
    }

    // ---- Terms

    private static void beginsFromTo() {
        due.sentence("Terms", "that must begin in SLOTS from .. to");
        for (int n = 4; n <= 12; n++) {
            SharedNights x = Glass.night(n);
            for (int from = 0; from < n; from++) {
                alert("from " + from + " to the last of " + n, x, 0, 1380, from, n - 1, from, 0);
                alert("from and to " + from, x, 0, 1380, from, from, from, 0);
            }
        }
        SharedNights x = Glass.night(6);
        for (int slot = 0; slot < 6; slot++) {
            x.seeing(0, slot, slot == 3 ? 1 : 4);
        }
        alert("it fits in SLOT 3 alone", x, 0, 1380, 0, 5, 3, 0);
        alert("from 3", x, 0, 1380, 3, 5, 3, 0);
        alert("to 3", x, 0, 1380, 0, 3, 3, 0);
        alert("to one ahead of it", x, 0, 1380, 0, 2, -1, -1);
        alert("from one behind it", x, 0, 1380, 4, 5, -1, -1);
    }

    private static void endsBehindTo() {
        due.sentence("Terms", "ALERT: a STEP of one TARGET (K, S, R, dark or not, INSTRUMENT) that must begin in SLOTS from .. to.");
        for (int n = 4; n <= 12; n++) {
            for (int k = 1; k <= 4; k++) {
                SharedNights x = Glass.night(n);
                int needs = 1000 * k + 380;
                alert("it ends with the NIGHT, K " + k, x, 0, needs, n - k, n - k, n - k, 0);
                alert("from there on, K " + k, x, 0, needs, n - k, n - 1, n - k, 0);
                if (k > 1) {
                    alert("it would end behind the NIGHT, K " + k, x, 0, needs, n - k + 1, n - 1, -1, -1);
                }
            }
        }
    }

    private static void fitsByForecast() {
        due.sentence("Terms", "Its LOSS at a begin at which it FITS by FORECAST");
        for (int s = 0; s <= 3; s++) {
            for (int v = 0; v <= 4; v++) {
                SharedNights x = Glass.night(4);
                for (int slot = 0; slot < 4; slot++) {
                    x.seeing(0, slot, 0);
                }
                x.seeing(0, 1, v);
                alert("S " + s + ", SEEING " + v, x, 0, 2080 + 100 * s, 0, 3, v <= s ? 0 : 2, 0);
            }
        }
        SharedNights x = Glass.night(4);
        for (int slot = 0; slot < 4; slot++) {
            x.seeing(1, slot, 4);
        }
        x.world(1);
        x.seeing(2, 0, 4);
        alert("other SKIES do not count", x, 0, 4180, 0, 3, 0, 0);
    }

    private static void lossLeastAndMost() {
        due.sentence("Terms", "WORTH of BEST NIGHT less that of the most that PLACEMENTS are worth which GO TOGETHER with it, too.");
        SharedNights none = Glass.night(4);
        alert("no PLANS", none, 0, 4380, 0, 3, 0, 0);
        SharedNights x = Glass.night(5);
        for (int p = 0; p < 5; p++) {
            Glass.plan(x, Glass.told(0, 0, 99, ALL));
        }
        due.is("the whole NIGHT", x.best(0), 495);
        for (int k = 1; k <= 4; k++) {
            alert("K " + k, x, 0, 1000 * k + 380, 0, 4, 0, 99 * k);
        }
        alert("the most: another INSTRUMENT, all next to it", x, 1, 4380, 0, 0, 0, 495);
        alert("another INSTRUMENT in the midst", x, 1, 3380, 1, 1, 1, 495);
        alert("another INSTRUMENT at the begin", x, 1, 3380, 0, 0, 0, 396);
        SharedNights y = Glass.night(12, Glass.told(0, 0, 99, Glass.step(4)));
        alert("nothing is lost", y, 0, 4380, 0, 11, 0, 0);
        alert("nothing is lost in the midst", y, 0, 4380, 4, 4, 4, 0);
    }

    private static void lossOfOtherInstruments() {
        due.sentence("Terms", "which GO TOGETHER with it, too");
        for (int i = 0; i < 3; i++) {
            for (int j = 0; j < 3; j++) {
                for (int slot = 0; slot < 12; slot++) {
                    SharedNights x = new SharedNights();
                    x.slots(12);
                    x.target(5, 8, 0);
                    x.target(5, 0, 0);
                    Glass.plan(x, Glass.told(i, 1, 7, ALL));
                    int apart = Math.abs(slot - 5);
                    boolean together = apart > 1 || apart == 1 && i == j;
                    alert("INSTRUMENTS " + i + ", " + j + " in SLOT " + slot, x, j, 1380, slot, slot, slot, together ? 0 : 7);
                }
            }
        }
    }

    /** Without the ALERT PLANS 0 and 1 are BEST NIGHT; beside it another SET is worth most. */
    private static void lossOfOneSet() {
        due.sentence("Terms", "less that of the most that PLACEMENTS are worth which GO TOGETHER with it, too");
        SharedNights x = Glass.night(4, Glass.told(0, 0, 5, Glass.step(2)), Glass.told(0, 0, 5, Glass.step(2)),
                Glass.told(0, 0, 8, Glass.step(3)));
        due.is("BEST NIGHT", x.best(0), 10);
        alert("PLAN 2 is worth most beside it", x, 0, 1380, 0, 0, 0, 2);
        alert("PLAN 0 is worth most beside it", x, 0, 2380, 0, 0, 0, 5);
        alert("PLAN 0 beside it in the midst", x, 0, 1380, 1, 1, 1, 5);
        due.is("BEST NIGHT stays", x.best(0), 10);
        due.is("PLAN 2 is not in it", x.placed(2), -1);
    }

    private static void leastLoss() {
        due.sentence("Terms", "BEST BEGIN: the least LOSS, of several the least SLOT; none.");
        SharedNights x = Glass.night(4, Glass.told(0, 0, 5, Glass.step(2)), Glass.told(0, 0, 5, Glass.step(2)),
                Glass.told(0, 0, 8, Glass.step(3)));
        alert("SLOTS 0 and 3 lose 2, 1 and 2 lose 5", x, 0, 1380, 0, 3, 0, 2);
        alert("from 1: SLOT 3", x, 0, 1380, 1, 3, 3, 2);
        alert("1 and 2 alike: the least", x, 0, 1380, 1, 2, 1, 5);
        alert("the last of them alone", x, 0, 1380, 2, 2, 2, 5);
        // The least LOSS is in the midst and is not 0.
        SharedNights y = new SharedNights();
        y.slots(5);
        y.target(5, 8, 0);
        for (int slot = 0; slot < 5; slot++) {
            y.target(slot, 0, 0);
        }
        int[] worths = {9, 7, 3, 7, 3};
        for (int slot = 0; slot < 5; slot++) {
            Glass.plan(y, Glass.told(0, 1 + slot, worths[slot], ALL));
        }
        alert("3 in SLOTS 2 and 4", y, 0, 1380, 0, 4, 2, 3);
        alert("3 in SLOT 4", y, 0, 1380, 3, 4, 4, 3);
        alert("7 in SLOT 1", y, 0, 1380, 0, 1, 1, 7);
        alert("9 in SLOT 0", y, 0, 1380, 0, 0, 0, 9);
        // A LOSS of 1 is not the least: behind it there is none.
        y.worth(2, 1);
        y.drop(4);
        alert("1 in SLOT 2, 0 in SLOT 4", y, 0, 1380, 0, 4, 4, 0);
        alert("1 in SLOT 2", y, 0, 1380, 0, 3, 2, 1);
    }

    // ---- the promise

    private static void none() {
        due.sentence("Promise 30", "ALERT of a TARGET: BEST BEGIN (what 0), its LOSS (1); NONE: it FITS nowhere there.");
        SharedNights x = Glass.night(4, Glass.told(0, 0, 5, ALL));
        alert("SEEING 1 everywhere", x, 0, 1080, 0, 3, -1, -1);
        for (int slot = 0; slot < 4; slot++) {
            x.seeing(0, slot, 4);
        }
        alert("shut", x, 0, 1380, 0, 3, -1, -1);
        SharedNights y = new SharedNights();
        y.target(40, 8, 0);
        y.target(9, 0, 0);
        alert("not VISIBLE in this NIGHT", y, 0, 1380, 0, 9, -1, -1);
        due.is("VISIBLE in the last SLOT", y.alert(1, 0, 1380, 0, 9, 0), 9);
        due.is("VISIBLE in too few", y.alert(1, 0, 2380, 0, 9, 0), -1);
        due.is("VISIBLE in too few, LOSS", y.alert(1, 0, 2380, 0, 9, 1), -1);
        SharedNights z = Glass.night(4);
        z.moon(0, 0, 3);
        alert("BRIGHT", z, 0, 1381, 0, 3, -1, -1);
        alert("BRIGHT, not dark", z, 0, 1380, 0, 3, 0, 0);
    }

    private static void needsAsDigits() {
        due.sentence("Promise 30", "needs is 1000 K, 100 S, 10 R and dark (0, 1) together.");
        SharedNights x = Glass.night(4);
        for (int needs = -1500; needs <= 12500; needs++) {
            if (needs % 400 == 0) {
                x = Glass.night(4);
            }
            int k = needs / 1000;
            int s = needs / 100 % 10;
            int r = needs / 10 % 10;
            int dark = needs % 10;
            boolean good = needs >= 0 && k >= 1 && k <= 4 && s <= 3 && r <= 8 && dark <= 1;
            int answer = x.alert(0, 0, needs, 0, 3, 0);
            due.is("needs " + needs + " are refused", answer == -3 ? 1 : 0, good ? 0 : 1);
        }
        for (int needs : new int[] {Integer.MIN_VALUE, Integer.MAX_VALUE, -1380, 1_001_380, Integer.MIN_VALUE + 1380}) {
            due.is("needs " + needs, Glass.night(4).alert(0, 0, needs, 0, 3, 0), -3);
        }
    }

    private static void needsAreUsed() {
        due.sentence("Promise 30", "needs is 1000 K, 100 S, 10 R and dark (0, 1) together.");
        for (int k = 1; k <= 4; k++) {
            for (int run = 1; run <= 4; run++) {
                SharedNights x = Glass.night(6);
                x.seeing(0, run, 4);
                x.seeing(0, 5, 4);
                int second = 4 - run >= k ? run + 1 : -1;
                due.is("K " + k + ", open " + run, x.alert(0, 0, 1000 * k + 180, 0, 5, 0), k <= run ? 0 : second);
            }
        }
        for (int r = 0; r <= 8; r++) {
            SharedNights x = new SharedNights();
            x.slots(12);
            x.target(11, 8, 0);
            due.is("R " + r, x.alert(0, 0, 1300 + 10 * r, 0, 11, 0), 11 - r);
            due.is("R " + r + " for two", x.alert(0, 0, 2300 + 10 * r, 0, 11, 0), r == 0 ? -1 : 11 - r);
        }
        SharedNights y = Glass.night(4);
        y.moon(0, 0, 0);
        due.is("dark", y.alert(0, 0, 1381, 0, 3, 0), 1);
        due.is("not dark", y.alert(0, 0, 1380, 0, 3, 0), 0);
    }

    private static void unknown() {
        due.sentence("Promise 30", "UNKNOWN: the TARGET");
        SharedNights x = new SharedNights();
        due.is("no TARGETS", x.alert(0, 0, 1380, 0, 9, 0), -2);
        for (int targets = 1; targets <= 8; targets++) {
            x.target(5, 8, 0);
            for (int t : Glass.beyond(0, targets - 1)) {
                due.is("TARGET " + t + " of " + targets, x.alert(t, 0, 1380, 0, 9, 0), -2);
            }
            due.is("the last TARGET", x.alert(targets - 1, 0, 1380, 0, 9, 0), 0);
        }
    }

    private static void outside() {
        due.sentence("Promise 30", "OUTSIDE: the INSTRUMENT, K, S, R, dark, SLOTS from, to (from not above to), what.");
        SharedNights x = Glass.night(10);
        for (int i : Glass.beyond(0, 2)) {
            due.is("INSTRUMENT " + i, x.alert(0, i, 1380, 0, 9, 0), -3);
        }
        for (int i = 0; i < 3; i++) {
            due.is("INSTRUMENT " + i, x.alert(0, i, 1380, 0, 9, 0), 0);
        }
        int[] needs = {380, 5380, 1480, 1390, 1382, 1389, 1980};
        for (int wrong : needs) {
            due.is("needs " + wrong, x.alert(0, 0, wrong, 0, 9, 0), -3);
        }
        for (int slot : Glass.beyond(0, 9)) {
            due.is("from " + slot, x.alert(0, 0, 1380, slot, 9, 0), -3);
            due.is("to " + slot, x.alert(0, 0, 1380, 0, slot, 0), -3);
            due.is("from and to " + slot, x.alert(0, 0, 1380, slot, slot, 0), -3);
        }
        due.is("from above to by one", x.alert(0, 0, 1380, 6, 5, 0), -3);
        due.is("from like to", x.alert(0, 0, 1380, 5, 5, 0), 5);
        due.is("from above to by all", x.alert(0, 0, 1380, 9, 0, 0), -3);
        for (int what : Glass.beyond(0, 1)) {
            due.is("what " + what, x.alert(0, 0, 1380, 0, 9, what), -3);
        }
        due.is("OUTSIDE where it would FIT nowhere", x.alert(0, 0, 1080, 0, 9, 2), -3);
    }

    private static void unknownFirst() {
        due.sentence("Terms", "the first of these that fits");
        SharedNights x = Glass.night(10);
        due.is("TARGET and INSTRUMENT", x.alert(1, 3, 1380, 0, 9, 0), -2);
        due.is("TARGET and needs", x.alert(1, 0, 0, 0, 9, 0), -2);
        due.is("TARGET and from", x.alert(-1, 0, 1380, -1, 9, 0), -2);
        due.is("TARGET and to", x.alert(1, 0, 1380, 0, 10, 0), -2);
        due.is("TARGET and what", x.alert(1, 0, 1380, 0, 9, 2), -2);
        due.is("TARGET and all", x.alert(Integer.MIN_VALUE, -1, -1, 10, -1, -1), -2);
    }
}
