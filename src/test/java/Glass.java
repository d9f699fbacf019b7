/** What tests do again and again with the class. */
final class Glass {
    private Glass() {
    }

    interface Call {
        int on(SharedNights x);
    }

    /** The bytes of a text from one place on, as write() takes them. */
    static long packed(String text, int from, int n) {
        long bytes = 0;
        for (int i = 0; i < n; i++) {
            bytes |= (long) (text.charAt(from + i) & 255) << 8 * i;
        }
        return bytes;
    }

    static void write(SharedNights x, String text) {
        for (int at = 0; at < text.length(); at += 8) {
            int n = Math.min(8, text.length() - at);
            x.write(packed(text, at, n), n);
        }
    }

    static int plan(SharedNights x, String text) {
        write(x, text);
        return x.plan();
    }

    static int fault(String text, int targets) {
        SharedNights x = withTargets(targets);
        write(x, text);
        return x.fault();
    }

    static int stands(String text, int targets) {
        SharedNights x = withTargets(targets);
        write(x, text);
        return x.stands();
    }

    static SharedNights withTargets(int targets) {
        SharedNights x = new SharedNights();
        for (int t = 0; t < targets; t++) {
            x.target(5, 8, t % 4);
        }
        return x;
    }

    /** An object with this many SLOTS, TARGET 0 that is VISIBLE in each of them (REGION 0), and these PLANS. */
    static SharedNights night(int slots, String... plans) {
        SharedNights x = new SharedNights();
        x.slots(slots);
        x.target(5, 8, 0);
        for (String plan : plans) {
            plan(x, plan);
        }
        return x;
    }

    /** A text with a PLAN of LAND 0. */
    static String told(int instrument, int target, int worth, String steps) {
        return "land 0 with " + instrument + " at " + target + " worth " + worth + " : " + steps;
    }

    static String step(int k) {
        return "expose " + k + " seeing 3 air 8";
    }

    /** One beyond each bound, and as far out as can be. */
    static int[] beyond(int least, int most) {
        return new int[] {least - 1, most + 1, Integer.MIN_VALUE, Integer.MAX_VALUE};
    }

    /** That a call is refused with this answer, and that nothing is other than without it. */
    static void refused(Due due, String call, Call make, Call refused, int answer) {
        for (int part = 0; part < Whole.PARTS; part++) {
            SharedNights untouched = new SharedNights();
            make.on(untouched);
            SharedNights x = new SharedNights();
            make.on(x);
            due.is(call, refused.on(x), answer);
            due.same("what there is behind " + call, Whole.part(x, part), Whole.part(untouched, part));
        }
    }
}
