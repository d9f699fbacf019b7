/** Promises 17 to 22: placements, placement, best, placed, price, empty. */
public final class BestNightTest {
    private static final Due due = new Due("BestNightTest");

    private BestNightTest() {
    }

    public static void main(String[] args) {
        oneStep();
        chains();
        mostPlacements();
        fitting();
        nothing();
        instruments();
        sameInstrument();
        fewestSlots();
        theFirst();
        theFirstOfSeveral();
        price();
        empty();
        changes();
        wrong();
        due.end();
    }

    private static SharedNights night(int slots, String... plans) {
        SharedNights x = new SharedNights();
        x.slots(slots);
        x.target(4, 8, 0);
        for (String plan : plans) {
            Glass.plan(x, plan);
        }
        return x;
    }

    private static String simple(int instrument, int worth, int k) {
        return "land 0 with " + instrument + " at 0 worth " + worth + ": expose " + k + " seeing 1 air 8";
    }

    private static void placements(SharedNights x, int plan, int... bits) {
        due.is("placements " + plan, x.placements(plan), bits.length);
        for (int k = 0; k < bits.length; k++) {
            due.is("placement " + plan + " " + k, x.placement(plan, k), bits[k]);
        }
        due.is("placement behind the last", x.placement(plan, bits.length), -3);
        due.is("placement -1", x.placement(plan, -1), -3);
    }

    private static void placed(SharedNights x, int... places) {
        for (int p = 0; p < places.length; p++) {
            due.is("placed " + p, x.placed(p), places[p]);
        }
    }

    private static void oneStep() {
        SharedNights x = night(10, "land 0 with 0 at 0 worth 7: expose 2 seeing 1 air 2");
        placements(x, 0, 12, 24, 48, 96);
        due.is("best worth", x.best(0), 7);
        due.is("best slots", x.best(1), 12);
        placed(x, 0);
    }

    private static void chains() {
        String step = "expose 1 seeing 1 air 8";
        SharedNights x = night(4, "land 0 with 0 at 0 worth 7: " + step + ", wait 1 to 2, " + step,
                "land 0 with 0 at 0 worth 7: " + step + ", wait 0 to 1, " + step + ", wait 0 to 1, " + step);
        due.is("a PLACEMENT asked for at once", x.placement(0, 1), 0b1001);
        placements(x, 0, 0b0101, 0b1001, 0b1010);
        placements(x, 1, 0b0111, 0b1011, 0b1101, 0b1110);
    }

    private static void mostPlacements() {
        String step = "expose 1 seeing 1 air 8";
        SharedNights x = night(12, "land 0 with 0 at 0 worth 7: " + step + ", wait 0 to 3, " + step + ", wait 0 to 3, " + step);
        due.is("as many as can be", x.placements(0), 112);
        due.is("the first", x.placement(0, 0), 0b111);
        due.is("the last", x.placement(0, 111), 0b111 << 9);
        due.is("none behind it", x.placement(0, 112), -3);
    }

    private static void fitting() {
        SharedNights x = night(6, "land 0 with 0 at 0 worth 7: expose 2 seeing 2 air 3 dark");
        placements(x, 0, 0b110, 0b1100, 0b11000, 0b110000);
        x.seeing(0, 3, 2);
        due.is("seeing at its bound", x.placements(0), 4);
        x.seeing(0, 3, 3);
        placements(x, 0, 0b110, 0b110000);
        x.seeing(0, 3, 0);
        x.moon(0, 5, 5);
        placements(x, 0, 0b110, 0b1100, 0b11000);
        x.seeing(1, 2, 4);
        due.is("TRUE SKY does not count", x.placements(0), 3);
        SharedNights y = new SharedNights();
        y.target(0, 2, 0);
        Glass.plan(y, "land 0 with 0 at 0 worth 7: expose 3 seeing 3 air 8");
        placements(y, 0, 0b111);
        y.seeing(0, 1, 4);
        due.is("shut", y.placements(0), 0);
    }

    private static void nothing() {
        SharedNights x = night(4);
        due.is("no PLANS, WORTH", x.best(0), 0);
        due.is("no PLANS, SLOTS", x.best(1), 0);
        due.is("no PLANS, a SLOT", x.empty(0), 1);
        Glass.plan(x, "land 0 with 0 at 0 worth 7: expose 1 seeing 0 air 8");
        due.is("no PLACEMENTS", x.placements(0), 0);
        placed(x, -1);
        due.is("no PRICE", x.price(0), -1);
        due.is("no PLACEMENT, a SLOT", x.empty(3), 1);
    }

    private static void instruments() {
        SharedNights x = night(4, simple(0, 5, 2), simple(1, 3, 1));
        due.is("WORTH of two INSTRUMENTS", x.best(0), 8);
        due.is("a SLOT apart", x.best(1), 0b1011);
        placed(x, 0, 3);
        SharedNights y = night(4, simple(0, 5, 2), simple(1, 3, 2));
        due.is("no SLOT apart", y.best(0), 5);
        placed(y, 0, -1);
        SharedNights z = night(5, simple(0, 5, 1), simple(1, 3, 1), simple(2, 2, 1));
        due.is("three INSTRUMENTS", z.best(1), 0b10101);
        placed(z, 0, 2, 4);
    }

    private static void sameInstrument() {
        SharedNights x = night(4, simple(2, 5, 2), simple(2, 3, 2));
        due.is("side by side", x.best(0), 8);
        due.is("the whole NIGHT", x.best(1), 15);
        placed(x, 0, 2);
        String step = "expose 1 seeing 1 air 8";
        SharedNights y = night(4, "land 0 with 0 at 0 worth 7: " + step + ", wait 1 to 1, " + step,
                "land 0 with 0 at 0 worth 7: " + step + ", wait 1 to 1, " + step);
        due.is("in one another's waits", y.best(1), 15);
        placed(y, 0, 1);
    }

    private static void fewestSlots() {
        SharedNights x = night(4, simple(0, 5, 4), simple(0, 5, 3));
        due.is("the fewest SLOTS", x.best(1), 7);
        placed(x, -1, 0);
        due.is("PRICE with more SLOTS", x.price(0), 6);
        due.is("PRICE with fewer SLOTS", x.price(1), 5);
        SharedNights y = night(4, simple(0, 2, 2), simple(0, 3, 1), simple(0, 5, 4));
        due.is("three SLOTS of two PLANS", y.best(1), 0b111);
        placed(y, 0, 2, -1);
        SharedNights z = night(4, "land 0 with 0 at 0 worth 5: expose 2 seeing 1 air 8, wait 0 to 0, expose 1 seeing 1 air 8",
                simple(1, 5, 2));
        due.is("SLOTS of all STEPS", z.best(1), 0b11);
        placed(z, -1, 0);
    }

    private static void theFirst() {
        SharedNights x = night(4, simple(0, 5, 3), simple(0, 5, 3));
        placed(x, 0, -1);
        due.is("PRICE of the first", x.price(0), 5);
        due.is("PRICE of the second", x.price(1), 6);
        SharedNights y = night(4, simple(0, 5, 2), simple(1, 5, 2), simple(0, 5, 2));
        placed(y, 0, -1, 2);
    }

    /** PLAN 0 cannot stand at its first PLACEMENT with PLAN 2, but PLAN 1 can: the order is by PLAN 0. */
    private static void theFirstOfSeveral() {
        SharedNights x = new SharedNights();
        x.slots(4);
        x.target(4, 8, 0);
        x.target(0, 0, 0);
        Glass.plan(x, simple(0, 5, 3));
        Glass.plan(x, simple(0, 5, 3));
        Glass.plan(x, "land 0 with 0 at 1 worth 2: expose 1 seeing 1 air 8");
        due.is("WORTH", x.best(0), 7);
        placed(x, 1, -1, 0);
        due.is("SLOTS", x.best(1), 15);
        // PLAN 1 and PLAN 2 hinder one another, and with PLAN 1 PLAN 0 would be later in the NIGHT.
        SharedNights y = new SharedNights();
        y.slots(4);
        y.target(4, 8, 0);
        y.target(0, 0, 0);
        y.target(1, 0, 0);
        Glass.plan(y, simple(1, 5, 1));
        Glass.plan(y, "land 0 with 0 at 1 worth 5: expose 1 seeing 1 air 8");
        Glass.plan(y, "land 0 with 1 at 2 worth 5: expose 1 seeing 1 air 8");
        placed(y, 0, -1, 0);
        due.is("PRICE of PLAN 1", y.price(1), 6);
        due.is("PRICE of PLAN 2", y.price(2), 5);
    }

    private static void price() {
        SharedNights x = night(4, simple(0, 99, 4), simple(0, 1, 4));
        due.is("no PRICE is enough", x.price(1), -1);
        due.is("the least PRICE", x.price(0), 1);
        due.is("WORTH stays", x.told(0, 3), 99);
        SharedNights y = night(4, simple(0, 99, 4), simple(0, 1, 3));
        due.is("the greatest PRICE", y.price(1), 99);
        SharedNights z = night(4, simple(0, 40, 2), simple(0, 30, 2), simple(0, 1, 4));
        due.is("PRICE of two", z.price(2), 71);
        due.is("PRICE in BEST NIGHT", z.price(1), 1);
        z.worth(2, 71);
        placed(z, -1, -1, 0);
        due.is("PRICE of one of two", z.price(1), 31);
        due.is("PRICE of the other", z.price(0), 41);
        z.worth(0, 1);
        due.is("PRICE beside a PLAN of little WORTH", z.price(1), 70);
        SharedNights one = night(4, simple(0, 50, 1));
        due.is("PRICE without others", one.price(0), 1);
    }

    private static void empty() {
        SharedNights x = night(6, simple(0, 9, 3), "land 0 with 1 at 0 worth 5: expose 3 seeing 1 air 8");
        due.is("BEST NIGHT", x.best(1), 7);
        for (int slot = 0; slot < 3; slot++) {
            due.is("not EMPTY", x.empty(slot), 0);
        }
        due.is("hindered", x.empty(3), 2);
        due.is("hindered at the end", x.empty(5), 2);
        x.seeing(0, 5, 3);
        due.is("no PLACEMENT has it", x.empty(5), 1);
        due.is("one has", x.empty(4), 2);
        due.is("SLOT N", x.empty(6), -2);
        due.is("SLOT -1", x.empty(-1), -2);
        SharedNights y = night(4, simple(0, 9, 3));
        due.is("PLACEMENTS of a PLAN that is in it", y.empty(3), 1);
        SharedNights z = night(4, simple(1, 5, 4), simple(0, 5, 1), simple(0, 6, 1));
        due.is("two PLANS are in it", z.best(1), 0b11);
        due.is("PLAN 0 alone would have the SLOT", z.empty(3), 2);
        SharedNights w = new SharedNights();
        w.slots(6);
        w.target(0, 8, 0);
        w.target(2, 0, 0);
        w.target(5, 0, 0);
        Glass.plan(w, "land 0 with 0 at 1 worth 9: expose 1 seeing 1 air 8");
        Glass.plan(w, "land 0 with 0 at 2 worth 9: expose 1 seeing 1 air 8");
        Glass.plan(w, "land 0 with 1 at 0 worth 1: expose 2 seeing 1 air 3");
        due.is("BEST NIGHT of three", w.best(1), 0b100100);
        due.is("hindered by the first alone", w.empty(0), 2);
        due.is("hindered by each", w.empty(3), 2);
        due.is("too much AIR", w.empty(4), 1);
    }

    /** What BEST NIGHT depends on is looked at anew behind each change. */
    private static void changes() {
        SharedNights x = night(6, simple(0, 9, 3), simple(1, 5, 2));
        due.is("at first", x.best(0), 14);
        due.is("seeing", x.seeing(0, 4, 4) + x.best(0), 1 + 9);
        due.is("seeing anew", x.seeing(0, 4, 1) + x.best(0), 4 + 14);
        due.is("worth", x.worth(0, 2) + x.best(0), 9 + 7);
        due.is("slots", x.slots(4) + x.best(0), 6 + 5);
        due.is("drop", x.drop(1) + x.best(0), 1 + 2);
        due.is("plan", Glass.plan(x, simple(0, 3, 1)) + x.best(0), 1 + 5);
        due.is("TRUE SKY", x.seeing(1, 0, 4) + x.best(0), 1 + 5);
        due.is("close", x.close(0) + x.best(0), 5);
        SharedNights y = night(4, "land 0 with 0 at 0 worth 5: expose 4 seeing 1 air 8 dark");
        due.is("no MOON", y.best(0), 5);
        due.is("moon", y.moon(0, 3, 3) + y.best(0), 1);
        y.seeing(1, 0, 4);
        due.is("THE MOON is gone", y.close(0) + y.best(0), 5);
    }

    private static void wrong() {
        SharedNights x = night(4, simple(0, 5, 1));
        int[] none = {-1, 1, 5, Integer.MAX_VALUE, Integer.MIN_VALUE};
        for (int p : none) {
            due.is("placements " + p, x.placements(p), -2);
            due.is("placement " + p, x.placement(p, 0), -2);
            due.is("placement " + p + " -1", x.placement(p, -1), -2);
            due.is("placed " + p, x.placed(p), -2);
            due.is("price " + p, x.price(p), -2);
        }
        due.is("best -1", x.best(-1), -3);
        due.is("best 2", x.best(2), -3);
        Glass.Call rich = Nightful::make;
        Glass.refused(due, "placements 3", rich, y -> y.placements(3), -2);
        Glass.refused(due, "placement 0 99", rich, y -> y.placement(0, 99), -3);
        Glass.refused(due, "best 2", rich, y -> y.best(2), -3);
        Glass.refused(due, "placed 3", rich, y -> y.placed(3), -2);
        Glass.refused(due, "price 3", rich, y -> y.price(3), -2);
        Glass.refused(due, "empty 9", rich, y -> y.empty(9), -2);
    }
}
