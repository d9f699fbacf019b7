/** Promise 30: alert. */
public final class AlertTest {
    private static final Due due = new Due("AlertTest");

    private AlertTest() {
    }

    public static void main(String[] args) {
        leastLoss();
        otherInstrument();
        severalPlans();
        fitting();
        noPlans();
        bounds();
        wrong();
        due.end();
    }

    private static SharedNights night(int slots, String... plans) {
        SharedNights x = new SharedNights();
        x.slots(slots);
        x.target(2, 8, 1);
        for (String plan : plans) {
            Glass.plan(x, plan);
        }
        return x;
    }

    private static String simple(int instrument, int worth, int k) {
        return "land 0 with " + instrument + " at 0 worth " + worth + ": expose " + k + " seeing 1 air 8";
    }

    private static void alert(SharedNights x, int instrument, int needs, int from, int to, int begin, int loss) {
        String call = "alert 0 " + instrument + " " + needs + " " + from + " " + to;
        due.is(call + " 0", x.alert(0, instrument, needs, from, to, 0), begin);
        due.is(call + " 1", x.alert(0, instrument, needs, from, to, 1), loss);
    }

    private static void leastLoss() {
        SharedNights x = night(4, simple(0, 5, 2));
        alert(x, 0, 1180, 0, 3, 0, 0);
        alert(x, 0, 1180, 1, 1, 1, 0);
        alert(x, 0, 2180, 0, 3, 0, 0);
        alert(x, 0, 2180, 1, 1, 1, 5);
        alert(x, 0, 2180, 1, 3, 2, 0);
        alert(x, 0, 3180, 0, 3, 0, 5);
        alert(x, 0, 4180, 0, 3, 0, 5);
        alert(x, 0, 4180, 1, 3, -1, -1);
        due.is("BEST NIGHT stays", x.best(0), 5);
        due.is("its PLACEMENT stays", x.placed(0), 0);
    }

    private static void otherInstrument() {
        SharedNights x = night(4, simple(0, 5, 2));
        alert(x, 1, 1180, 0, 3, 0, 0);
        alert(x, 1, 1180, 1, 1, 1, 5);
        alert(x, 1, 1180, 1, 3, 3, 0);
        alert(x, 2, 2180, 0, 3, 0, 5);
    }

    private static void severalPlans() {
        SharedNights x = night(6, simple(0, 9, 3), simple(0, 4, 2), simple(0, 3, 1));
        due.is("BEST NIGHT", x.best(0), 16);
        alert(x, 0, 1180, 0, 5, 0, 3);
        alert(x, 0, 2180, 0, 5, 0, 4);
        alert(x, 0, 3180, 0, 5, 0, 7);
        alert(x, 0, 3180, 1, 2, 1, 9);
        alert(x, 1, 1180, 2, 3, 2, 9);
        SharedNights y = night(4, simple(0, 1, 2));
        alert(y, 0, 2180, 1, 3, 2, 0);
    }

    private static void fitting() {
        SharedNights x = night(4);
        x.seeing(0, 1, 2);
        x.seeing(0, 3, 4);
        x.seeing(1, 0, 4);
        alert(x, 0, 1180, 0, 3, 0, 0);
        alert(x, 0, 1100, 0, 3, 2, 0);
        alert(x, 0, 1210, 0, 3, 1, 0);
        alert(x, 0, 2180, 0, 3, -1, -1);
        alert(x, 0, 2280, 1, 3, 1, 0);
        alert(x, 0, 2380, 2, 3, -1, -1);
        alert(x, 0, 1080, 0, 3, -1, -1);
        x.moon(1, 0, 1);
        alert(x, 0, 1181, 0, 3, 2, 0);
        alert(x, 0, 1180, 0, 3, 0, 0);
        alert(x, 0, 1181, 0, 1, -1, -1);
        x.moon(2, 0, 3);
        alert(x, 0, 1181, 0, 1, 0, 0);
        SharedNights y = new SharedNights();
        y.target(8, 1, 0);
        alert(y, 0, 1380, 0, 9, 7, 0);
        alert(y, 0, 1380, 0, 6, -1, -1);
        alert(y, 0, 3380, 0, 9, 7, 0);
        alert(y, 0, 3380, 8, 9, -1, -1);
    }

    private static void noPlans() {
        SharedNights x = night(4);
        alert(x, 0, 4380, 0, 0, 0, 0);
    }

    private static void bounds() {
        SharedNights x = night(4);
        int[] outside = {-1, 0, 999, 5000, 11000, 1400, 1090, 1002, 1009, 1990, -1380, Integer.MAX_VALUE,
            Integer.MIN_VALUE};
        for (int needs : outside) {
            due.is("needs " + needs, x.alert(0, 0, needs, 0, 3, 0), -3);
        }
        due.is("the greatest needs", x.alert(0, 0, 4381, 0, 3, 0), 0);
        due.is("the least needs", x.alert(0, 0, 1000, 0, 3, 0), -1);
        due.is("INSTRUMENT 2", x.alert(0, 2, 1380, 0, 3, 0), 0);
        due.is("INSTRUMENT 3", x.alert(0, 3, 1380, 0, 3, 0), -3);
        due.is("INSTRUMENT -1", x.alert(0, -1, 1380, 0, 3, 0), -3);
        due.is("from -1", x.alert(0, 0, 1380, -1, 3, 0), -3);
        due.is("to N", x.alert(0, 0, 1380, 0, 4, 0), -3);
        due.is("from above to", x.alert(0, 0, 1380, 2, 1, 0), -3);
        due.is("from N", x.alert(0, 0, 1380, 4, 4, 0), -3);
        due.is("what 2", x.alert(0, 0, 1380, 0, 3, 2), -3);
        due.is("what -1", x.alert(0, 0, 1380, 0, 3, -1), -3);
        due.is("no TARGET", x.alert(1, 0, 1380, 0, 3, 0), -2);
        due.is("TARGET -1", x.alert(-1, 0, 1380, 0, 3, 0), -2);
        due.is("UNKNOWN ahead of OUTSIDE", x.alert(1, 5, -1, 9, 3, 9), -2);
    }

    private static void wrong() {
        Glass.Call rich = Nightful::make;
        Glass.refused(due, "alert of no TARGET", rich, x -> x.alert(1, 0, 1380, 0, 3, 0), -2);
        Glass.refused(due, "alert with wrong needs", rich, x -> x.alert(0, 0, 380, 0, 3, 0), -3);
    }
}
