/** What tests do again and again with the class. */
final class Glass {
    private Glass() {
    }

    interface Call {
        int on(SharedNights x);
    }

    /** The bytes of a text from one place on, as write() takes them. */
    static long packed(String text, int from, int n) {
        long bytes = 0;
        for (int i = 0; i < n; i++) {
            bytes |= (long) (text.charAt(from + i) & 255) << 8 * i;
        }
        return bytes;
    }

    static void write(SharedNights x, String text) {
        for (int at = 0; at < text.length(); at += 8) {
            int n = Math.min(8, text.length() - at);
            x.write(packed(text, at, n), n);
        }
    }

    static int plan(SharedNights x, String text) {
        write(x, text);
        return x.plan();
    }

    static int fault(String text, int targets) {
        SharedNights x = withTargets(targets);
        write(x, text);
        return x.fault();
    }

    static int stands(String text, int targets) {
        SharedNights x = withTargets(targets);
        write(x, text);
        return x.stands();
    }

    static SharedNights withTargets(int targets) {
        SharedNights x = new SharedNights();
        for (int t = 0; t < targets; t++) {
            x.target(5, 8, t % 4);
        }
        return x;
    }

    /** An object with this many SLOTS, TARGET 0 that is VISIBLE in each of them (REGION 0), and these PLANS. */
    static SharedNights night(int slots, String... plans) {
        SharedNights x = new SharedNights();
        x.slots(slots);
        x.target(5, 8, 0);
        for (String plan : plans) {
            plan(x, plan);
        }
        return x;
    }

    /** A text with a PLAN of LAND 0. */
    static String told(int instrument, int target, int worth, String steps) {
        return "land 0 with " + instrument + " at " + target + " worth " + worth + " : " + steps;
    }

    static String step(int k) {
        return "expose " + k + " seeing 3 air 8";
    }

    /** One beyond each bound, and as far out as can be. */
    static int[] beyond(int least, int most) {
        return new int[] {least - 1, most + 1, Integer.MIN_VALUE, Integer.MAX_VALUE};
    }

    /** That a call is refused with this answer, and that nothing is other than without it. */
    static void refused(Due due, String call, Call make, Call refused, int answer) {
        SharedNights untouched = new SharedNights();
        make.on(untouched);
        SharedNights x = new SharedNights();
        make.on(x);
        due.is(call, refused.on(x), answer);
        due.same("all behind " + call, all(x), all(untouched));
    }

    /** Every answer that the object gives (in some 450 calls), those that must be set to be known at the end. */
    static String all(SharedNights x) {
        StringBuilder s = new StringBuilder();
        for (int what = 0; what <= 6; what++) {
            s.append(" c").append(x.count(what));
        }
        for (int what = 0; what <= 7; what++) {
            s.append(" a").append(x.account(what));
        }
        for (int land = 0; land < 4; land++) {
            s.append(" d").append(x.debt(land));
        }
        s.append(" f").append(x.fault()).append(" s").append(x.stands()).append(" n").append(x.next());
        s.append(" b").append(x.best(0)).append(' ').append(x.best(1)).append(" r").append(x.rule());
        for (int t = 0; t < x.count(2); t++) {
            s.append(" t").append(x.air(t, 0)).append(' ').append(x.air(t, 3)).append(' ').append(x.air(t, 9));
        }
        allOfPlans(x, s);
        allOfWatches(x, s);
        for (int land = 0; land < 4; land++) {
            s.append(" h").append(x.share(land, 1));
        }
        s.append(" g").append(x.again(0));
        for (int sky = 0; sky < 2 + x.count(4); sky++) {
            for (int slot = 0; slot < x.count(0); slot++) {
                s.append(" e").append(x.seeing(sky, slot, 0));
            }
        }
        s.append(" w").append(x.world(9)).append(" p").append(x.plan()).append(" t").append(x.target(0, 0, 0));
        return s.append(" z").append(x.close(0)).toString();
    }

    private static void allOfPlans(SharedNights x, StringBuilder s) {
        int[] whats = {0, 1, 2, 3, 4, 10, 11, 12, 13, 20, 21, 22, 23, 24, 25, 30, 31, 32, 33, 34, 35};
        for (int p = 0; p < x.count(3); p++) {
            for (int what : whats) {
                s.append(" o").append(x.told(p, what));
            }
            s.append(" k").append(x.placements(p)).append(' ').append(x.placement(p, 0));
            s.append(" m").append(x.placed(p)).append(" v").append(x.price(p));
        }
    }

    private static void allOfWatches(SharedNights x, StringBuilder s) {
        for (int rule = 0; rule < 3; rule++) {
            s.append(" v").append(x.value(rule, 0)).append('/').append(x.value(rule, 1)).append(' ').append(x.sure(rule));
            for (int slot = 0; slot < x.count(0); slot++) {
                s.append(" l").append(x.log(rule, 0, slot)).append(' ').append(x.log(rule, 1, slot));
            }
        }
    }
}
