/** The bounds that the document names for PLACEMENTS and BEST NIGHT: Terms 3, promises 17 to 22. */
public final class BestNightEdgesTest {
    private static final Due due = new Due("BestNightEdgesTest");
    private static final String ALL = Glass.step(1);

    private BestNightEdgesTest() {
    }

    public static void main(String[] args) {
        stepsWithinTheNight();
        seeingAtMost();
        seeingNotShut();
        visibleAtMost();
        airAtMost();
        darkNotBright();
        allFitByForecast();
        waitsLeastAndMost();
        numberedByBegins();
        noSlotInCommon();
        notNextToEachOther();
        withinWaits();
        oneOfAPlanAtMost();
        worthMost();
        fewestSlots();
        theFirst();
        noneBehindAll();
        byPlan1AndSoOn();
        firstPlacementAheadOfLeastPlans();
        planInAheadOfOthers();
        noPlans();
        fivePlans();
        priceLeastAndMost();
        priceNone();
        priceIsLeast();
        priceOfOwnWorth();
        empty1();
        empty2();
        emptyByEachPlan();
        empty3();
        askedAheadAndBehind();
        placementsNoneAndMost();
        placementRefused();
        bestRefused();
        placedNone();
        emptyNot();
        plansUnknown();
        emptyRefused();
        due.end();
    }

    private static void placements(String what, SharedNights x, int plan, int... bits) {
        due.is("placements, " + what, x.placements(plan), bits.length);
        for (int k = 0; k < bits.length; k++) {
            due.is("placement " + k + ", " + what, x.placement(plan, k), bits[k]);
        }
        due.is("none behind them, " + what, x.placement(plan, bits.length), -3);
    }

    private static void placed(String what, SharedNights x, int... places) {
        for (int p = 0; p < places.length; p++) {
            due.is("placed " + p + ", " + what, x.placed(p), places[p]);
        }
    }

    /** All begins of a STEP of K SLOTS of which each is one of these SLOTS. */
    private static int[] runs(int slots, int k) {
        int[] found = new int[12];
        int n = 0;
        int run = (1 << k) - 1;
        for (int begin = 0; begin + k <= 12; begin++) {
            if ((slots >> begin & run) == run) {
                found[n] = run << begin;
                n++;
            }
        }
        return java.util.Arrays.copyOf(found, n);
    }

    // ---- Terms: FITS

    private static void stepsWithinTheNight() {
        due.sentence("Terms", "A STEP FITS in SLOTS t .. t + K - 1, if these are SLOTS");
        for (int n = 4; n <= 12; n++) {
            for (int k = 1; k <= 4; k++) {
                SharedNights x = Glass.night(n, Glass.told(0, 0, 5, Glass.step(k)));
                placements("K " + k + " of " + n, x, 0, runs((1 << n) - 1, k));
            }
        }
    }

    private static void seeingAtMost() {
        due.sentence("Terms", "in each by the SKY SEEING is S at most (and not 4)");
        for (int s = 0; s <= 3; s++) {
            SharedNights x = Glass.night(6, Glass.told(0, 0, 5, "expose 3 seeing " + s + " air 8"));
            for (int slot = 0; slot < 6; slot++) {
                x.seeing(0, slot, 0);
            }
            for (int v = 0; v <= 4; v++) {
                for (int slot = 0; slot < 6; slot++) {
                    x.seeing(0, slot, v);
                    int slots = v <= s ? 63 : 63 & ~(1 << slot);
                    placements("S " + s + ", SEEING " + v + " in SLOT " + slot, x, 0, runs(slots, 3));
                    x.seeing(0, slot, 0);
                }
            }
        }
    }

    private static void seeingNotShut() {
        due.sentence("Terms", "SEEING is S at most (and not 4)");
        SharedNights x = Glass.night(4, Glass.told(0, 0, 5, ALL));
        for (int slot = 0; slot < 4; slot++) {
            x.seeing(0, slot, 3);
        }
        due.is("SEEING 3 everywhere", x.placements(0), 4);
        for (int slot = 0; slot < 4; slot++) {
            x.seeing(0, slot, 4);
            due.is("shut to SLOT " + slot, x.placements(0), 3 - slot);
        }
    }

    private static void visibleAtMost() {
        due.sentence("Terms", "the TARGET is VISIBLE");
        for (int reach = 0; reach <= 8; reach++) {
            for (int k = 1; k <= 4; k++) {
                SharedNights x = new SharedNights();
                x.slots(12);
                x.target(8, reach, 0);
                Glass.plan(x, Glass.told(0, 0, 5, Glass.step(k)));
                placements("REACH " + reach + ", K " + k, x, 0, runs(around(8, reach), k));
            }
        }
    }

    /** The SLOTS of twelve that are this far from a SLOT at most, by bits. */
    private static int around(int slot, int most) {
        int bits = 0;
        for (int s = 0; s < 12; s++) {
            bits |= Math.abs(s - slot) <= most ? 1 << s : 0;
        }
        return bits;
    }

    private static void airAtMost() {
        due.sentence("Terms", "its AIR is R at most");
        for (int r = 0; r <= 8; r++) {
            SharedNights x = new SharedNights();
            x.slots(12);
            x.target(3, 8, 0);
            x.target(3, 4, 0);
            Glass.plan(x, Glass.told(0, 0, 5, "expose 2 seeing 1 air " + r));
            Glass.plan(x, Glass.told(0, 1, 5, "expose 2 seeing 1 air " + r));
            placements("R " + r, x, 0, runs(around(3, r), 2));
            placements("R " + r + ", REACH 4", x, 1, runs(around(3, Math.min(r, 4)), 2));
        }
    }

    private static void darkNotBright() {
        due.sentence("Terms", "if it is dark, it is not BRIGHT");
        SharedNights x = new SharedNights();
        x.slots(8);
        x.target(5, 8, 3);
        Glass.plan(x, Glass.told(0, 0, 5, "expose 3 seeing 1 air 8 dark"));
        Glass.plan(x, Glass.told(0, 0, 5, "expose 3 seeing 1 air 8"));
        placements("no MOON", x, 0, runs(255, 3));
        for (int from = 0; from < 8; from++) {
            for (int to = from; to < 8; to++) {
                x.moon(3, from, to);
                int bright = (1 << to + 1) - (1 << from);
                placements("moon " + from + " .. " + to, x, 0, runs(255 & ~bright, 3));
            }
        }
        due.is("not dark", x.placements(1), 6);
        x.moon(2, 0, 7);
        due.is("moon of another REGION", x.placements(0), 6);
    }

    // ---- Terms: PLACEMENTS

    private static void allFitByForecast() {
        due.sentence("Terms", "A PLACEMENT of a PLAN: a begin of each STEP, so that all FIT by FORECAST");
        SharedNights x = Glass.night(5, Glass.told(0, 0, 5, ALL + ", wait 0 to 0, expose 1 seeing 0 air 8"));
        due.is("the second fits nowhere", x.placements(0), 0);
        x.seeing(0, 0, 0);
        due.is("the second fits where the first cannot be ahead", x.placements(0), 0);
        x.seeing(0, 4, 0);
        placements("both in the last two SLOTS", x, 0, 0b11000);
        x.seeing(1, 3, 4);
        x.world(1);
        x.seeing(2, 4, 4);
        placements("other SKIES do not count", x, 0, 0b11000);
        x.seeing(0, 3, 4);
        due.is("the first does not fit", x.placements(0), 0);
    }

    private static void waitsLeastAndMost() {
        due.sentence("Terms", "from the end of each STEP to the begin of the next one A .. B SLOTS go by (as told between both)");
        for (int a = 0; a <= 6; a++) {
            for (int b = a; b <= a + 3; b++) {
                SharedNights x = new SharedNights();
                x.slots(12);
                // The first STEP, of two SLOTS, fits in SLOTS 0 and 1 alone.
                x.target(5, 8, 0);
                for (int slot = 0; slot < 2; slot++) {
                    x.seeing(0, slot, 0);
                }
                Glass.plan(x, Glass.told(0, 0, 5, "expose 2 seeing 0 air 8, wait " + a + " to " + b + ", " + ALL));
                int[] bits = new int[Math.max(0, Math.min(b, 9) - a + 1)];
                for (int gone = a; gone <= b && gone <= 9; gone++) {
                    bits[gone - a] = 0b11 | 1 << 2 + gone;
                }
                placements("wait " + a + " to " + b, x, 0, bits);
            }
        }
        SharedNights x = Glass.night(12, Glass.told(0, 0, 5, ALL + ", wait 6 to 6, " + ALL + ", wait 3 to 6, " + ALL));
        placements("as long as the NIGHT", x, 0, 0b100010000001);
    }

    private static void numberedByBegins() {
        due.sentence("Terms", "PLACEMENTS are numbered from 0 by the first begin, then the second, then the third.");
        SharedNights x = Glass.night(6, Glass.told(0, 0, 5, ALL + ", wait 0 to 1, " + ALL + ", wait 0 to 2, " + ALL));
        placements("three STEPS", x, 0, 0b111, 0b1011, 0b10011, 0b1101, 0b10101, 0b100101,
                0b1110, 0b10110, 0b100110, 0b11010, 0b101010, 0b11100, 0b101100, 0b110100, 0b111000);
    }

    // ---- Terms: SETS

    /** Two PLANS, each with one PLACEMENT of one SLOT. */
    private static SharedNights pair(int slotA, int instrumentA, int slotB, int instrumentB) {
        SharedNights x = new SharedNights();
        x.slots(12);
        x.target(slotA, 0, 0);
        x.target(slotB, 0, 0);
        Glass.plan(x, Glass.told(instrumentA, 0, 7, ALL));
        Glass.plan(x, Glass.told(instrumentB, 1, 4, ALL));
        return x;
    }

    private static void noSlotInCommon() {
        due.sentence("Terms", "Two PLACEMENTS (of two PLANS) GO TOGETHER, if they have no SLOT in common");
        for (int i = 0; i < 3; i++) {
            for (int slot = 0; slot < 12; slot++) {
                due.is("the same SLOT " + slot, pair(slot, i, slot, i).best(0), 7);
                if (slot > 0) {
                    due.is("side by side with one INSTRUMENT", pair(slot - 1, i, slot, i).best(0), 11);
                    due.is("side by side the other way round", pair(slot, i, slot - 1, i).best(0), 11);
                }
            }
        }
        SharedNights x = Glass.night(6, Glass.told(0, 0, 7, Glass.step(3)), Glass.told(0, 0, 4, Glass.step(3)));
        due.is("three and three of six", x.best(0), 11);
        x.slots(5);
        due.is("three and three of five", x.best(0), 7);
    }

    private static void notNextToEachOther() {
        due.sentence("Terms", "if their INSTRUMENTS are other ones, no SLOT of the one is next to one of the other");
        for (int i = 0; i < 3; i++) {
            for (int j = 0; j < 3; j++) {
                for (int apart = -3; apart <= 3; apart++) {
                    boolean together = apart != 0 && (i == j || Math.abs(apart) > 1);
                    String what = "INSTRUMENTS " + i + ", " + j + ", " + apart + " apart";
                    due.is(what, pair(5, i, 5 + apart, j).best(0), together ? 11 : 7);
                }
            }
        }
        due.is("at the begin of the NIGHT", pair(0, 0, 1, 1).best(0), 7);
        due.is("at its end", pair(11, 0, 10, 1).best(0), 7);
        due.is("the first and the last SLOT", pair(0, 0, 11, 2).best(0), 11);
    }

    private static void withinWaits() {
        due.sentence("Terms", "no SLOT of the one is next to one of the other");
        for (int gap = 0; gap <= 4; gap++) {
            for (int i = 0; i < 2; i++) {
                SharedNights x = Glass.night(2 + gap < 4 ? 4 : 2 + gap,
                        Glass.told(0, 0, 7, "expose 1 seeing 0 air 8, wait " + gap + " to " + gap + ", expose 1 seeing 0 air 8"));
                for (int slot = 0; slot < x.count(0); slot++) {
                    x.seeing(0, slot, slot == 0 || slot == gap + 1 ? 0 : slot > gap + 1 ? 4 : 1);
                }
                Glass.plan(x, Glass.told(i, 0, 4, ALL));
                boolean together = i == 0 ? gap >= 1 : gap >= 3;
                due.is("INSTRUMENT " + i + " in a wait of " + gap, x.best(0), together ? 11 : 7);
            }
        }
    }

    private static void oneOfAPlanAtMost() {
        due.sentence("Terms", "A SET of PLACEMENTS, one of a PLAN at most, of which all GO TOGETHER, is WORTH what its PLANS are together.");
        SharedNights x = Glass.night(12, Glass.told(0, 0, 7, ALL));
        due.is("twelve PLACEMENTS", x.placements(0), 12);
        due.is("WORTH of one", x.best(0), 7);
        due.is("SLOTS of one", x.best(1), 1);
    }

    private static SharedNights three(int n, int worth0, int k0, int worth1, int k1, int worth2, int k2) {
        return Glass.night(n, Glass.told(0, 0, worth0, Glass.step(k0)), Glass.told(0, 0, worth1, Glass.step(k1)),
                Glass.told(0, 0, worth2, Glass.step(k2)));
    }

    private static void worthMost() {
        due.sentence("Terms", "BEST NIGHT: that worth most");
        due.is("one worth more than two", three(4, 10, 4, 4, 2, 5, 2).best(0), 10);
        due.is("two worth more than one by one", three(4, 10, 4, 5, 2, 6, 2).best(0), 11);
        due.is("one worth more than two by one", three(4, 12, 4, 5, 2, 6, 2).best(0), 12);
        SharedNights x = three(4, 10, 4, 5, 2, 6, 2);
        placed("more WORTH with as many SLOTS", x, -1, 0, 2);
        SharedNights y = three(4, 10, 1, 1, 4, 11, 4);
        due.is("more WORTH with more SLOTS", y.best(1), 15);
    }

    private static void fewestSlots() {
        due.sentence("Terms", "of several that with the fewest SLOTS");
        SharedNights x = three(4, 9, 4, 9, 3, 9, 2);
        due.is("the fewest", x.best(1), 0b11);
        placed("the fewest", x, -1, -1, 0);
        SharedNights y = three(4, 9, 4, 4, 1, 5, 2);
        due.is("two with fewer", y.best(1), 0b111);
        placed("two with fewer", y, -1, 0, 1);
        SharedNights z = three(4, 9, 3, 4, 2, 5, 2);
        placed("one with fewer than two", z, 0, -1, -1);
    }

    private static void theFirst() {
        due.sentence("Terms", "of several the first (by PLAN 0: its PLACEMENTS as numbered");
        SharedNights x = three(6, 1, 2, 1, 2, 1, 2);
        placed("each behind the other", x, 0, 2, 4);
        // PLAN 1 can be in SLOT 0 alone: PLAN 0 stands at the first of its PLACEMENTS that goes with it.
        SharedNights y = pair(0, 0, 0, 0);
        y.drop(0);
        y.target(5, 8, 0);
        Glass.plan(y, Glass.told(1, 2, 3, Glass.step(2)));
        due.is("both", y.best(0), 7);
        placed("the other INSTRUMENT a SLOT later", y, 0, 2);
    }

    private static void noneBehindAll() {
        due.sentence("Terms", "none behind all");
        SharedNights x = three(4, 5, 4, 5, 4, 5, 4);
        placed("PLAN 0 is in it", x, 0, -1, -1);
        x.worth(0, 4);
        placed("PLAN 1 ahead of PLAN 2", x, -1, 0, -1);
        // PLAN 0 with its last PLACEMENT is ahead of a night without PLAN 0 that has PLAN 1 at its first.
        SharedNights y = new SharedNights();
        y.slots(4);
        y.target(3, 0, 0);
        y.target(5, 8, 0);
        Glass.plan(y, Glass.told(0, 0, 5, ALL));
        Glass.plan(y, Glass.told(0, 1, 5, Glass.step(4)));
        Glass.plan(y, Glass.told(0, 1, 5, ALL));
        y.drop(1);
        placed("both are in it", y, 0, 0);
        Glass.plan(y, Glass.told(1, 1, 5, Glass.step(2)));
        placed("PLAN 0 in the last SLOT", y, 0, 0, -1);
    }

    /** Four PLANS for one SLOT each, and a fifth: which of those that are alike is in BEST NIGHT. */
    private static void byPlan1AndSoOn() {
        due.sentence("Terms", "then by PLAN 1, and so on");
        for (int first = 0; first < 5; first++) {
            SharedNights x = Glass.night(4);
            for (int p = 0; p < 5; p++) {
                Glass.plan(x, Glass.told(p % 3, 0, p < first ? 4 : 5, Glass.step(4)));
            }
            int[] places = {-1, -1, -1, -1, -1};
            places[first] = 0;
            placed("the first of those worth most is " + first, x, places);
        }
        // PLANS 0 and 1 are in it however it is; PLAN 3 can be earlier if PLAN 2 is later, but PLAN 2 comes first.
        SharedNights y = three(4, 1, 1, 1, 1, 1, 1);
        Glass.plan(y, Glass.told(0, 0, 1, ALL));
        placed("four in four SLOTS", y, 0, 1, 2, 3);
    }

    /**
     * So many PLANS stand aside in the last SLOTS. The next one can be in SLOTS 0 .. 3; with the one behind it, which has SLOT 0, it
     * must be later than with the last one, which has SLOT 1 and its own INSTRUMENT.
     */
    private static void firstPlacementAheadOfLeastPlans() {
        due.sentence("Terms", "of several the first (by PLAN 0: its PLACEMENTS as numbered, none behind all; then by PLAN 1, and so on)");
        for (int aside = 0; aside <= 2; aside++) {
            SharedNights x = new SharedNights();
            x.slots(12);
            int[] places = new int[aside + 3];
            for (int p = 0; p < aside; p++) {
                x.target(11 - p, 0, 0);
                Glass.plan(x, Glass.told(0, p, 5, ALL));
            }
            x.target(0, 3, 0);
            x.target(0, 0, 0);
            x.target(1, 0, 0);
            Glass.plan(x, Glass.told(1, aside, 5, ALL));
            Glass.plan(x, Glass.told(0, aside + 1, 5, ALL));
            Glass.plan(x, Glass.told(1, aside + 2, 5, ALL));
            places[aside + 1] = -1;
            due.is("WORTH", x.best(0), 5 * (aside + 2));
            placed("decided by PLAN " + aside, x, places);
        }
    }

    /** So many PLANS stand aside. Of the four behind them the first and the last go together, or the two in the midst. */
    private static void planInAheadOfOthers() {
        due.sentence("Terms", "none behind all; then by PLAN 1, and so on");
        for (int aside = 0; aside <= 1; aside++) {
            SharedNights x = new SharedNights();
            x.slots(12);
            if (aside == 1) {
                x.target(11, 0, 0);
                Glass.plan(x, Glass.told(0, 0, 5, ALL));
            }
            x.target(2, 0, 0);
            x.target(0, 1, 0);
            x.target(3, 0, 0);
            x.target(2, 2, 0);
            Glass.plan(x, Glass.told(0, aside, 5, ALL));
            Glass.plan(x, Glass.told(1, aside + 1, 5, Glass.step(2)));
            Glass.plan(x, Glass.told(1, aside + 2, 5, ALL));
            Glass.plan(x, Glass.told(0, aside + 3, 5, ALL + ", wait 3 to 3, " + ALL));
            due.is("two of the four", x.best(0), 10 + 5 * aside);
            int[] places = {0, -1, -1, 0, 0};
            int[] later = {0, 0, -1, -1, 0};
            placed("the first and the last, aside " + aside, x, aside == 0 ? java.util.Arrays.copyOf(places, 4) : later);
            x.worth(aside + 1, 6);
            due.is("the two in the midst are worth more", x.placed(aside + 1), 0);
        }
    }

    private static void noPlans() {
        due.sentence("Promise 19", "BEST NIGHT: its WORTH (what 0), its SLOTS by bits (1).");
        due.is("WORTH without TARGETS", new SharedNights().best(0), 0);
        due.is("SLOTS without TARGETS", new SharedNights().best(1), 0);
        due.is("WORTH without PLANS", Glass.night(4).best(0), 0);
        due.is("SLOTS without PLANS", Glass.night(4).best(1), 0);
        SharedNights x = Glass.night(12, Glass.told(0, 0, 7, "expose 1 seeing 0 air 8"));
        due.is("WORTH without PLACEMENTS", x.best(0), 0);
        due.is("SLOTS without PLACEMENTS", x.best(1), 0);
        SharedNights y = Glass.night(12, Glass.told(0, 0, 99, Glass.step(4)), Glass.told(0, 0, 99, Glass.step(4)),
                Glass.told(0, 0, 99, Glass.step(4)));
        due.is("SLOTS of the whole NIGHT", y.best(1), 4095);
        y.drop(2);
        due.is("dropped", y.best(1), 255);
        y.drop(1);
        y.drop(0);
        due.is("all dropped, WORTH", y.best(0), 0);
        due.is("all dropped, SLOTS", y.best(1), 0);
    }

    private static void fivePlans() {
        due.sentence("Promise 19", "BEST NIGHT: its WORTH (what 0), its SLOTS by bits (1).");
        String chain = ALL + ", wait 0 to 3, " + ALL + ", wait 0 to 3, " + ALL;
        SharedNights x = Glass.night(12);
        for (int p = 0; p < 5; p++) {
            due.is("PLAN " + p, Glass.plan(x, Glass.told(0, 0, 99, chain)), p);
            due.is("its PLACEMENTS", x.placements(p), 112);
        }
        due.is("four of five, worth most", x.best(0), 396);
        due.is("the whole NIGHT", x.best(1), 4095);
        placed("the first four, one behind the other", x, 0, 48, 92, 111, -1);
    }

    // ---- Terms: PRICE, EMPTY

    private static void priceLeastAndMost() {
        due.sentence("Terms", "PRICE of a PLAN: the least WORTH (1 .. 99) that it would have to have so that it is in BEST NIGHT");
        SharedNights x = three(4, 50, 4, 1, 1, 1, 1);
        due.is("the least PRICE", Glass.night(4, Glass.told(0, 0, 50, ALL)).price(0), 1);
        due.is("as much as another with as many SLOTS, ahead of it", three(4, 1, 4, 99, 4, 1, 4).price(0), 99);
        due.is("as much as another with more SLOTS", three(4, 99, 4, 1, 3, 1, 4).price(1), 99);
        due.is("more than another with as many SLOTS by one", three(4, 98, 4, 1, 4, 1, 4).price(1), 99);
        due.is("beside one of little WORTH", x.price(1), 49);
    }

    private static void priceNone() {
        due.sentence("Promise 21", "PRICE of a PLAN; NONE. UNKNOWN.");
        due.is("it would have to be 100", three(4, 99, 4, 1, 4, 1, 4).price(1), -1);
        due.is("it would have to be 100, of two", three(4, 1, 4, 50, 2, 50, 2).price(0), -1);
        due.is("it may just be 99, of two", three(4, 1, 4, 50, 2, 49, 2).price(0), 99);
        due.is("without PLACEMENTS", Glass.night(4, Glass.told(0, 0, 9, "expose 1 seeing 0 air 8")).price(0), -1);
        due.is("no PLANS", Glass.night(4).price(0), -2);
        SharedNights x = Glass.night(4, Glass.told(0, 0, 9, ALL));
        for (int p : Glass.beyond(0, 0)) {
            due.is("PRICE of PLAN " + p, x.price(p), -2);
        }
    }

    /** With its PRICE a PLAN is in BEST NIGHT, with one less it is not. */
    private static void priceIsLeast() {
        due.sentence("Terms", "so that it is in BEST NIGHT; none.");
        int[][] nights = {{4, 10, 4, 6, 2, 5, 2}, {4, 11, 4, 6, 2, 5, 2}, {5, 9, 3, 9, 3, 9, 2}, {4, 97, 4, 2, 1, 99, 4},
            {6, 3, 4, 3, 3, 3, 2}, {12, 9, 4, 8, 4, 7, 4}};
        for (int[] night : nights) {
            for (int p = 0; p < 3; p++) {
                SharedNights x = three(night[0], night[1], night[2], night[3], night[4], night[5], night[6]);
                int price = x.price(p);
                due.is("there is a PRICE", price >= 1 && price <= 99 ? 1 : 0, 1);
                x.worth(p, price);
                due.is("with its PRICE it is in it", x.placed(p) >= 0 ? 1 : 0, 1);
                if (price > 1) {
                    x.worth(p, price - 1);
                    due.is("with one less it is not", x.placed(p), -1);
                }
                x.worth(p, 99);
                due.is("with the most it is in it", x.placed(p) >= 0 ? 1 : 0, 1);
            }
        }
    }

    private static void priceOfOwnWorth() {
        due.sentence("Terms", "PRICE of a PLAN: the least WORTH (1 .. 99)");
        SharedNights x = three(4, 30, 4, 1, 2, 12, 2);
        for (int v : new int[] {1, 17, 18, 19, 99}) {
            x.worth(1, v);
            // 18 and 12 are as much as 30, with as many SLOTS, but PLAN 0 is ahead.
            due.is("PRICE with WORTH " + v, x.price(1), 19);
            due.is("WORTH stays", x.told(1, 3), v);
            due.is("BEST NIGHT stays", x.best(0), Math.max(30, v + 12));
        }
    }

    private static void empty1() {
        due.sentence("Terms", "EMPTY SLOTS of BEST NIGHT, why: 1 no PLACEMENT of any PLAN that is not in it has the SLOT");
        for (int slot = 0; slot < 12; slot++) {
            due.is("no PLANS, SLOT " + slot, Glass.night(12).empty(slot), 1);
        }
        SharedNights x = Glass.night(4, Glass.told(0, 0, 5, ALL), Glass.told(0, 0, 5, "expose 1 seeing 0 air 8"));
        for (int slot = 1; slot < 4; slot++) {
            due.is("PLACEMENTS of a PLAN that is in it do not count", x.empty(slot), 1);
        }
        SharedNights y = Glass.night(12, Glass.told(0, 0, 5, Glass.step(4)));
        y.target(11, 1, 0);
        Glass.plan(y, Glass.told(1, 1, 9, Glass.step(2)));
        due.is("both are in it", y.best(1), 0b110000001111);
        due.is("behind them", y.empty(4), 1);
    }

    private static void empty2() {
        due.sentence("Terms", "2 one has, but each such does not GO TOGETHER with one that is in it");
        SharedNights x = Glass.night(6, Glass.told(0, 0, 5, "expose 4 seeing 1 air 8"), Glass.told(1, 0, 4, Glass.step(3)));
        due.is("BEST NIGHT", x.best(1), 0b1111);
        due.is("next to it", x.empty(4), 2);
        due.is("in common with it", x.empty(5), 2);
        // SLOT 3 is hindered by PLAN 0 in SLOT 2 alone, and by PLAN 1 in SLOT 4 alone.
        for (int other = 0; other < 2; other++) {
            SharedNights y = new SharedNights();
            y.slots(6);
            y.target(2 + 2 * other, 0, 0);
            y.target(3, 0, 0);
            Glass.plan(y, Glass.told(0, 0, 9, ALL));
            Glass.plan(y, Glass.told(2, 1, 8, ALL));
            due.is("hindered by one", y.empty(3), 2);
            due.is("a SLOT beside", y.empty(5 - 5 * other), 1);
        }
    }

    /** Each PLAN of five in turn is the one that is not in BEST NIGHT and would have SLOT 6. */
    private static void emptyByEachPlan() {
        due.sentence("Terms", "1 no PLACEMENT of any PLAN that is not in it has the SLOT; 2 one has");
        for (int out = 0; out < 5; out++) {
            SharedNights x = new SharedNights();
            x.slots(12);
            int[] slots = {0, 2, 4, 11};
            int in = 0;
            for (int p = 0; p < 5; p++) {
                x.target(p == out ? 5 : slots[in], p == out ? 1 : 0, 0);
                // From SLOT 4 to 6, hindered in SLOT 4 by another INSTRUMENT.
                Glass.plan(x, Glass.told(p == out ? 1 : 0, p, p == out ? 1 : 9, p == out ? Glass.step(3) : ALL));
                in += p == out ? 0 : 1;
            }
            due.is("PLAN " + out + " is not in it", x.placed(out), -1);
            due.is("BEST NIGHT", x.best(1), 0b100000010101);
            int[] why = {0, 1, 0, 1, 0, 2, 2, 1, 1, 1, 1, 0};
            for (int slot = 0; slot < 12; slot++) {
                due.is("SLOT " + slot + ", PLAN " + out + " is out", x.empty(slot), why[slot]);
            }
        }
    }

    /** What was asked ahead of a change is no hindrance: each change is seen behind it. */
    private static void askedAheadAndBehind() {
        due.sentence("Terms", "so that all FIT by FORECAST");
        String dark = "expose 4 seeing 1 air 8 dark";
        SharedNights x = Glass.night(4, Glass.told(0, 0, 5, dark));
        due.is("at first", x.best(0), 5);
        due.is("moon", x.moon(0, 3, 3) + x.best(0), 1);
        due.is("moon in another REGION", x.moon(1, 0, 3) + x.best(0), 1 + 5);
        due.is("seeing", x.seeing(0, 0, 2) + x.best(0), 1);
        due.is("seeing anew", x.seeing(0, 0, 0) + x.best(0), 2 + 5);
        due.is("worth", x.worth(0, 8) + x.best(0), 5 + 8);
        due.is("plan", Glass.plan(x, Glass.told(0, 0, 9, dark)) + x.best(0), 1 + 9);
        due.is("drop", x.drop(1) + x.best(0), 1 + 8);
        due.is("slots", x.slots(5) + x.placements(0), 4 + 2);
        x.moon(0, 0, 4);
        due.is("moon again", x.placements(0), 0);
        due.is("close by a BRIGHT NIGHT", x.close(0), 0);
        due.is("behind it", x.placements(0), 2);
        due.is("BEST NIGHT behind it", x.best(0), 8);
        due.is("close by a dark one", x.close(0), 8);
        due.is("BEST NIGHT of nothing", x.best(0), 0);
        due.is("SLOTS of nothing", x.best(1), 0);
        SharedNights y = new SharedNights();
        y.slots(4);
        y.target(4, 1, 0);
        Glass.plan(y, Glass.told(0, 0, 5, "expose 1 seeing 1 air 1"));
        y.seeing(1, 3, 4);
        due.is("in the last SLOT", y.best(1), 0b1000);
        y.close(0);
        due.is("a NIGHT later", y.best(1), 0b100);
    }

    /** What 3 tells of would make BEST NIGHT worth more: it cannot come, for any PLANS. */
    private static void empty3() {
        due.sentence("Terms", "3 else.");
        java.util.Random chance = new java.util.Random(3);
        for (int run = 0; run < 300; run++) {
            SharedNights x = Glass.night(4 + run % 9);
            x.target(chance.nextInt(12), chance.nextInt(9), 0);
            for (int p = 0; p < 1 + run % 5; p++) {
                Glass.plan(x, Glass.told(chance.nextInt(3), chance.nextInt(2), 1 + chance.nextInt(9), Glass.step(1 + chance.nextInt(4))));
            }
            int bits = x.best(1);
            for (int slot = 0; slot < x.count(0); slot++) {
                int why = x.empty(slot);
                due.is("SLOT of BEST NIGHT", why == 0 ? 1 : 0, bits >> slot & 1);
                due.is("why is 0 .. 2", why >= 0 && why <= 2 ? 1 : 0, 1);
            }
        }
    }

    // ---- promises

    private static void placementsNoneAndMost() {
        due.sentence("Promise 17", "How many PLACEMENTS a PLAN has. UNKNOWN.");
        SharedNights x = Glass.night(12, Glass.told(0, 0, 5, "expose 1 seeing 0 air 8"), Glass.told(0, 0, 5,
                ALL + ", wait 0 to 3, " + ALL + ", wait 0 to 3, " + ALL), Glass.told(0, 0, 5, ALL + ", wait 6 to 9, "
                + Glass.step(4) + ", wait 6 to 9, " + ALL));
        due.is("none", x.placements(0), 0);
        due.is("as many as can be", x.placements(1), 112);
        due.is("longer than the NIGHT", x.placements(2), 0);
        SharedNights y = Glass.night(12);
        y.target(0, 0, 0);
        y.target(11, 0, 0);
        y.target(12, 0, 0);
        for (int t = 1; t <= 3; t++) {
            Glass.plan(y, Glass.told(0, t, 5, ALL));
        }
        due.is("the first SLOT alone", y.placement(0, 0), 1);
        due.is("the last SLOT alone", y.placement(1, 0), 2048);
        due.is("behind the NIGHT", y.placements(2), 0);
        due.is("of no PLAN", y.placements(3), -2);
    }

    private static void placementRefused() {
        due.sentence("Promise 18", "SLOTS of a PLACEMENT of a PLAN, by bits. UNKNOWN; OUTSIDE: no such one.");
        SharedNights x = Glass.night(12, Glass.told(0, 0, 5, "expose 1 seeing 0 air 8"), Glass.told(0, 0, 5,
                ALL + ", wait 0 to 3, " + ALL + ", wait 0 to 3, " + ALL));
        for (int k : new int[] {0, -1, 1, Integer.MIN_VALUE, Integer.MAX_VALUE}) {
            due.is("placement " + k + " of none", x.placement(0, k), -3);
        }
        due.is("the first of 112", x.placement(1, 0), 0b111);
        due.is("the last of 112", x.placement(1, 111), 0b111 << 9);
        for (int k : Glass.beyond(0, 111)) {
            due.is("placement " + k + " of 112", x.placement(1, k), -3);
        }
        for (int p : Glass.beyond(0, 1)) {
            due.is("placement of PLAN " + p, x.placement(p, 0), -2);
            due.is("no such PLAN, no such one", x.placement(p, -1), -2);
            due.is("no such PLAN, none behind 112", x.placement(p, 112), -2);
        }
    }

    private static void bestRefused() {
        due.sentence("Promise 19", "its SLOTS by bits (1). OUTSIDE.");
        SharedNights x = Glass.night(4, Glass.told(0, 0, 5, Glass.step(2)));
        due.is("what 0", x.best(0), 5);
        due.is("what 1", x.best(1), 3);
        for (int what : Glass.beyond(0, 1)) {
            due.is("what " + what, x.best(what), -3);
            due.is("what " + what + " without PLANS", new SharedNights().best(what), -3);
        }
    }

    private static void placedNone() {
        due.sentence("Promise 20", "The PLACEMENT of a PLAN in BEST NIGHT; NONE: it is not in it. UNKNOWN.");
        SharedNights x = three(4, 5, 4, 6, 4, 5, 4);
        placed("one of three", x, -1, 0, -1);
        due.is("the last PLACEMENT", last().placed(0), 11);
        SharedNights y = Glass.night(4, Glass.told(0, 0, 9, "expose 1 seeing 0 air 8"));
        due.is("without PLACEMENTS", y.placed(0), -1);
        due.is("without PLANS", Glass.night(4).placed(0), -2);
        for (int p : Glass.beyond(0, 2)) {
            due.is("PLAN " + p, x.placed(p), -2);
        }
    }

    /** PLAN 0 must stand aside to SLOT 11: no other PLAN can have that one, and all are in BEST NIGHT. */
    private static SharedNights last() {
        SharedNights x = Glass.night(12, Glass.told(0, 0, 1, ALL));
        x.target(0, 3, 0);
        x.target(4, 3, 0);
        x.target(7, 3, 0);
        Glass.plan(x, Glass.told(0, 1, 99, Glass.step(4)));
        Glass.plan(x, Glass.told(0, 2, 99, Glass.step(4)));
        Glass.plan(x, Glass.told(0, 3, 99, Glass.step(3)));
        return x;
    }

    private static void emptyNot() {
        due.sentence("Promise 22", "Why a SLOT is EMPTY (1 .. 3); 0: it is not. UNKNOWN.");
        SharedNights x = Glass.night(12, Glass.told(0, 0, 1, ALL + ", wait 6 to 9, " + Glass.step(4)));
        due.is("BEST NIGHT", x.best(1), 0b11110000001);
        for (int slot = 0; slot < 12; slot++) {
            due.is("SLOT " + slot, x.empty(slot), slot == 0 || slot >= 7 && slot < 11 ? 0 : 1);
        }
        due.is("behind the last SLOT", x.empty(12), -2);
    }

    private static void plansUnknown() {
        due.sentence("Promise 17", "UNKNOWN.");
        SharedNights none = Glass.night(4);
        due.is("placements of no PLANS", none.placements(0), -2);
        SharedNights x = Glass.night(12);
        for (int p = 0; p < 5; p++) {
            Glass.plan(x, Glass.told(0, 0, 5, ALL));
            for (int wrong : Glass.beyond(0, p)) {
                due.is("placements of PLAN " + wrong, x.placements(wrong), -2);
            }
            due.is("placements of the last", x.placements(p), 12);
        }
        x.drop(4);
        due.is("placements of one that is no more", x.placements(4), -2);
        due.is("placed, no more", x.placed(4), -2);
        due.is("price, no more", x.price(4), -2);
        due.is("placement, no more", x.placement(4, 0), -2);
    }

    private static void emptyRefused() {
        due.sentence("Promise 22", "UNKNOWN.");
        for (int n = 4; n <= 12; n++) {
            SharedNights x = Glass.night(n, Glass.told(0, 0, 5, Glass.step(4)));
            for (int slot : Glass.beyond(0, n - 1)) {
                due.is("SLOT " + slot + " of " + n, x.empty(slot), -2);
            }
            due.is("the last SLOT", x.empty(n - 1), n == 4 ? 0 : 1);
        }
    }
}
