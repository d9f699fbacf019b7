/** The bounds that the document names for SLOTS, TARGETS, THE MOON, SKIES: Terms 1, promises 1 to 8. */
public final class NightEdgesTest {
    private static final Due due = new Due("NightEdgesTest");

    private NightEdgesTest() {
    }

    public static void main(String[] args) {
        slotsLeastAndMost();
        slotsAreNumbered();
        tonightAtFirst();
        targetsEightAtMost();
        meridian();
        reach();
        region();
        airWithoutItsSign();
        visible();
        noMoonAtFirst();
        moonFromTo();
        oneMoon();
        seeingLeastAndMost();
        skiesAtFirst();
        newObject();
        slotsRenewTheNight();
        slotsRefused();
        targetRefused();
        airRefused();
        airNotVisible();
        moonRefused();
        seeingOfEachSky();
        seeingRefused();
        worldRefused();
        worldAsForecast();
        unworld();
        due.end();
    }

    // ---- Terms

    private static void slotsLeastAndMost() {
        due.sentence("Terms", "N - 1 (4 .. 12; 10 at first).");
        SharedNights x = new SharedNights();
        due.is("N at first", x.count(0), 10);
        due.is("the least N", x.slots(4), 10);
        due.is("N is 4", x.count(0), 4);
        due.is("one below the least N", x.slots(3), -3);
        due.is("the greatest N", x.slots(12), 4);
        due.is("N is 12", x.count(0), 12);
        due.is("one above the greatest N", x.slots(13), -3);
        due.is("N is 12 still", x.count(0), 12);
    }

    private static void slotsAreNumbered() {
        due.sentence("What it is", "A NIGHT has N SLOTS 0 ..");
        for (int n = 4; n <= 12; n++) {
            SharedNights x = Glass.night(n);
            due.is("the first SLOT of " + n, x.seeing(0, 0, 2), 1);
            due.is("the last SLOT of " + n, x.seeing(0, n - 1, 2), 1);
            due.is("behind the last of " + n, x.seeing(0, n, 2), -2);
            due.is("air behind the last of " + n, x.air(0, n), -2);
            due.is("air in the last of " + n, x.air(0, n - 1), Math.abs(n - 1 - 5));
            due.is("empty behind the last of " + n, x.empty(n), -2);
            due.is("empty in the last of " + n, x.empty(n - 1), 1);
            due.is("log behind the last of " + n, x.log(0, 0, n), -2);
            due.is("log in the last of " + n, x.log(0, 0, n - 1), 22);
            due.is("moon to the last of " + n, x.moon(0, 0, n - 1), 1);
            due.is("moon behind the last of " + n, x.moon(0, 0, n), -3);
            due.is("alert from the last of " + n, x.alert(0, 0, 1380, n - 1, n - 1, 0), n - 1);
            due.is("alert behind the last of " + n, x.alert(0, 0, 1380, n - 1, n, 0), -3);
        }
    }

    private static void tonightAtFirst() {
        due.sentence("Terms", "TONIGHT is a number, 0 at first, 300 at most.");
        SharedNights x = new SharedNights();
        due.is("TONIGHT at first", x.count(1), 0);
        for (int night = 1; night <= 300; night++) {
            due.is("close NIGHT " + night, x.close(0), 0);
        }
        due.is("TONIGHT at most", x.count(1), 300);
        due.is("close one more", x.close(0), -4);
        due.is("TONIGHT stays", x.count(1), 300);
    }

    private static void targetsEightAtMost() {
        due.sentence("Terms", "TARGETS are numbered from 0, 8 at most");
        SharedNights x = new SharedNights();
        due.is("no TARGETS", x.count(2), 0);
        due.is("no TARGET 0", x.air(0, 0), -2);
        for (int t = 0; t < 8; t++) {
            due.is("TARGET " + t, x.target(t, 8, 0), t);
            due.is("so many TARGETS", x.count(2), t + 1);
            due.is("it has its number", x.air(t, t), 0);
            due.is("none behind it", x.air(t + 1, 0), -2);
        }
        due.is("a ninth TARGET", x.target(0, 8, 0), -5);
        due.is("eight TARGETS", x.count(2), 8);
        due.is("TARGET 7 is as it was", x.air(7, 7), 0);
        due.is("TARGET 0 is as it was", x.air(0, 0), 0);
    }

    private static void meridian() {
        due.sentence("Terms", "with a MERIDIAN (0 .. 40)");
        SharedNights x = new SharedNights();
        due.is("one below the least", x.target(-1, 8, 0), -3);
        due.is("one above the greatest", x.target(41, 8, 0), -3);
        due.is("the least", x.target(0, 8, 0), 0);
        due.is("the greatest", x.target(40, 8, 0), 1);
        due.is("the least is in SLOT 0", x.air(0, 0), 0);
        for (int night = 0; night < 40; night++) {
            x.close(0);
        }
        due.is("the greatest is in SLOT 0 in NIGHT 40", x.air(1, 0), 0);
        due.is("the least is long set", x.air(0, 0), -1);
    }

    private static void reach() {
        due.sentence("Terms", "a REACH (0 .. 8)");
        SharedNights x = new SharedNights();
        due.is("one below the least", x.target(0, -1, 0), -3);
        due.is("one above the greatest", x.target(0, 9, 0), -3);
        due.is("the least", x.target(1, 0, 0), 0);
        due.is("the greatest", x.target(0, 8, 0), 1);
        due.is("REACH 0 at its MERIDIAN", x.air(0, 1), 0);
        due.is("REACH 0 ahead of it", x.air(0, 0), -1);
        due.is("REACH 0 behind it", x.air(0, 2), -1);
        due.is("REACH 8 at 8", x.air(1, 8), 8);
        due.is("REACH 8 at 9", x.air(1, 9), -1);
    }

    private static void region() {
        due.sentence("Terms", "a REGION (0 .. 3)");
        SharedNights x = new SharedNights();
        due.is("one below the least", x.target(0, 0, -1), -3);
        due.is("one above the greatest", x.target(0, 0, 4), -3);
        for (int region = 0; region < 4; region++) {
            due.is("REGION " + region, x.target(5, 8, region), region);
        }
        for (int region = 0; region < 4; region++) {
            due.is("moon in REGION " + region, x.moon(region, 0, 9), 1);
            for (int t = 0; t < 4; t++) {
                due.is("dark SLOTS of TARGET " + t, darkSlots(x, t), t == region ? 0 : 1023);
            }
        }
    }

    /** The SLOTS in which a dark STEP of one SLOT FITS, by bits: an ALERT tells it without any PLAN. */
    private static int darkSlots(SharedNights x, int target) {
        int bits = 0;
        for (int slot = 0; slot < x.count(0); slot++) {
            if (x.alert(target, 0, 1381, slot, slot, 0) == slot) {
                bits |= 1 << slot;
            }
        }
        return bits;
    }

    private static void airWithoutItsSign() {
        due.sentence("Terms", "AIR of a TARGET in a SLOT s: s less (MERIDIAN less TONIGHT), without its sign");
        SharedNights x = new SharedNights();
        x.target(3, 8, 0);
        for (int slot = 0; slot < 10; slot++) {
            due.is("air in SLOT " + slot, x.air(0, slot), Math.abs(slot - 3));
        }
        for (int night = 1; night <= 12; night++) {
            x.close(0);
            int first = 0 - (3 - night);
            int air = first < 0 ? -first : first;
            due.is("air in SLOT 0 of NIGHT " + night, x.air(0, 0), air <= 8 ? air : -1);
            int last = 9 - (3 - night);
            due.is("air in SLOT 9 of NIGHT " + night, x.air(0, 9), last <= 8 ? last : -1);
        }
    }

    private static void visible() {
        due.sentence("Terms", "it is VISIBLE, if that is REACH at most");
        for (int reach = 0; reach <= 8; reach++) {
            SharedNights x = new SharedNights();
            x.slots(12);
            x.target(6, reach, 0);
            for (int slot = 0; slot < 12; slot++) {
                int air = Math.abs(slot - 6);
                due.is("REACH " + reach + ", SLOT " + slot, x.air(0, slot), air <= reach ? air : -1);
            }
        }
    }

    private static void noMoonAtFirst() {
        due.sentence("Terms", "(in no REGION at first: NONE)");
        SharedNights x = new SharedNights();
        for (int region = 0; region < 4; region++) {
            x.target(5, 8, region);
            due.is("nothing is BRIGHT in REGION " + region, darkSlots(x, region), 1023);
        }
    }

    private static void moonFromTo() {
        due.sentence("Terms", "up in SLOTS from .. to");
        SharedNights x = new SharedNights();
        x.target(5, 8, 2);
        x.target(5, 8, 1);
        int[][] moons = {{0, 0}, {0, 9}, {9, 9}, {3, 5}, {0, 8}, {1, 9}};
        for (int[] moon : moons) {
            due.is("moon", x.moon(2, moon[0], moon[1]), 1);
            int dark = 0;
            for (int slot = 0; slot < 10; slot++) {
                dark |= slot < moon[0] || slot > moon[1] ? 1 << slot : 0;
            }
            due.is("dark SLOTS, moon " + moon[0] + " .. " + moon[1], darkSlots(x, 0), dark);
            due.is("dark SLOTS of another REGION", darkSlots(x, 1), 1023);
        }
    }

    private static void oneMoon() {
        due.sentence("Terms", "THE MOON of TONIGHT is in a REGION, up in SLOTS from .. to (in no REGION at first: NONE): a TARGET of that "
                + "REGION is BRIGHT in these SLOTS.");
        SharedNights x = new SharedNights();
        x.target(5, 8, 0);
        x.target(3, 8, 0);
        x.target(5, 8, 3);
        x.moon(0, 1, 2);
        due.is("each TARGET of that REGION", darkSlots(x, 0), 1023 & ~0b110);
        due.is("the other of that REGION", darkSlots(x, 1), 1023 & ~0b110);
        due.is("none of another", darkSlots(x, 2), 1023);
        x.moon(3, 8, 9);
        due.is("told anew it is there alone", darkSlots(x, 0), 1023);
        due.is("in the greatest REGION", darkSlots(x, 2), 255);
        x.close(0);
        due.is("gone with TONIGHT", darkSlots(x, 2), 1023);
    }

    private static void seeingLeastAndMost() {
        due.sentence("Terms", "A SKY gives each SLOT a SEEING 0 .. 4 (4: shut).");
        SharedNights x = new SharedNights();
        x.world(1);
        for (int sky = 0; sky < 3; sky++) {
            int was = 1;
            for (int v = 0; v <= 4; v++) {
                due.is("SEEING " + v + " of SKY " + sky, x.seeing(sky, 4, v), was);
                was = v;
            }
            due.is("one below the least", x.seeing(sky, 4, -1), -3);
            due.is("one above the greatest", x.seeing(sky, 4, 5), -3);
            due.is("it is shut still", x.seeing(sky, 4, 1), 4);
        }
    }

    private static void skiesAtFirst() {
        due.sentence("Terms", "FORECAST is a SKY (1 everywhere at first). TRUE SKY likewise (1 at first).");
        SharedNights x = new SharedNights();
        for (int slot = 0; slot < 10; slot++) {
            due.is("FORECAST in SLOT " + slot, x.seeing(0, slot, 0), 1);
            due.is("TRUE SKY in SLOT " + slot, x.seeing(1, slot, 2), 1);
        }
    }

    // ---- promises

    private static void newObject() {
        due.sentence("Promise 1", "Ten SLOTS, no TARGETS, no PLANS.");
        SharedNights x = new SharedNights();
        int[] counts = {10, 0, 0, 0, 0, 0, 0};
        for (int what = 0; what < 7; what++) {
            due.is("count " + what, x.count(what), counts[what]);
        }
        for (int what = 0; what < 8; what++) {
            due.is("account " + what, x.account(what), 0);
        }
        due.is("no TARGET 0", x.air(0, 0), -2);
        due.is("no PLAN 0", x.told(0, 0), -2);
        due.is("no WORLD 0", x.seeing(2, 0, 1), -2);
        due.is("an empty TEXT", x.fault(), 0);
        due.is("BEST NIGHT of nothing", x.best(0), 0);
        due.is("no WORLDS", x.rule(), -1);
    }

    private static void slotsRenewTheNight() {
        due.sentence("Promise 2", "N; FORECAST, TRUE SKY 1 everywhere, no MOON, no WORLDS: that which it was.");
        int[][] changes = {{12, 12}, {12, 4}, {4, 12}, {10, 10}, {4, 5}};
        for (int[] change : changes) {
            SharedNights x = Glass.night(12);
            shutEverywhere(x);
            x.slots(change[0]);
            shutEverywhere(x);
            due.is("that which it was", x.slots(change[1]), change[0]);
            due.is("N", x.count(0), change[1]);
            due.is("no WORLDS", x.count(4), 0);
            due.is("no WORLD 0", x.seeing(2, 0, 1), -2);
            due.is("no MOON, FORECAST clear", darkSlots(x, 0), (1 << change[1]) - 1);
            for (int slot = 0; slot < change[1]; slot++) {
                due.is("FORECAST in SLOT " + slot, x.seeing(0, slot, 1), 1);
                due.is("TRUE SKY in SLOT " + slot, x.seeing(1, slot, 1), 1);
            }
        }
    }

    private static void shutEverywhere(SharedNights x) {
        for (int slot = 0; slot < x.count(0); slot++) {
            x.seeing(0, slot, 4);
            x.seeing(1, slot, 4);
        }
        x.world(9);
        x.moon(0, 0, x.count(0) - 1);
    }

    private static void slotsRefused() {
        due.sentence("Promise 2", "that which it was. OUTSIDE.");
        for (int n : Glass.beyond(4, 12)) {
            SharedNights x = new SharedNights();
            x.seeing(0, 3, 4);
            x.world(2);
            due.is("slots " + n, x.slots(n), -3);
            due.is("N stays", x.count(0), 10);
            due.is("WORLDS stay", x.count(4), 1);
            due.is("FORECAST stays", x.seeing(0, 3, 4), 4);
        }
        due.is("slots 0", new SharedNights().slots(0), -3);
    }

    private static void targetRefused() {
        due.sentence("Promise 3", "A TARGET: its number. OUTSIDE; FULL.");
        SharedNights x = new SharedNights();
        for (int i = 0; i <= 8; i++) {
            for (int v : Glass.beyond(0, 40)) {
                due.is("MERIDIAN " + v + " with " + i, x.target(v, 8, 3), -3);
            }
            for (int v : Glass.beyond(0, 8)) {
                due.is("REACH " + v + " with " + i, x.target(40, v, 3), -3);
            }
            for (int v : Glass.beyond(0, 3)) {
                due.is("REGION " + v + " with " + i, x.target(40, 8, v), -3);
            }
            due.is("so many TARGETS", x.count(2), i);
            due.is("a TARGET more", x.target(0, 0, 0), i < 8 ? i : -5);
        }
        due.is("eight TARGETS", x.count(2), 8);
    }

    private static void airRefused() {
        due.sentence("Promise 4", "NONE: it is not VISIBLE. UNKNOWN.");
        SharedNights x = new SharedNights();
        due.is("none of no TARGETS", x.air(0, 0), -2);
        for (int i = 1; i <= 8; i++) {
            x.target(39, 0, 0);
            for (int t : Glass.beyond(0, i - 1)) {
                due.is("TARGET " + t + " of " + i, x.air(t, 0), -2);
            }
            for (int slot : Glass.beyond(0, 9)) {
                due.is("SLOT " + slot, x.air(i - 1, slot), -2);
            }
            due.is("known, but not VISIBLE", x.air(i - 1, 9), -1);
        }
        due.is("neither TARGET nor SLOT", x.air(8, 10), -2);
    }

    private static void airNotVisible() {
        due.sentence("Promise 4", "AIR of a TARGET in a SLOT; NONE: it is not VISIBLE.");
        SharedNights x = new SharedNights();
        x.target(3, 2, 0);
        int[] airs = {-1, 2, 1, 0, 1, 2, -1, -1, -1, -1};
        for (int slot = 0; slot < 10; slot++) {
            due.is("SLOT " + slot, x.air(0, slot), airs[slot]);
        }
        for (int night = 0; night < 300; night++) {
            x.close(0);
        }
        for (int slot = 0; slot < 10; slot++) {
            due.is("SLOT " + slot + " of NIGHT 300", x.air(0, slot), -1);
        }
    }

    private static void moonRefused() {
        due.sentence("Promise 5", "THE MOON: 1. OUTSIDE: region (0 .. 3), SLOTS, or from above to.");
        SharedNights x = new SharedNights();
        x.target(5, 8, 0);
        due.is("moon", x.moon(0, 2, 4), 1);
        for (int region : Glass.beyond(0, 3)) {
            due.is("REGION " + region, x.moon(region, 0, 9), -3);
        }
        for (int slot : Glass.beyond(0, 9)) {
            due.is("from " + slot, x.moon(0, slot, 9), -3);
            due.is("to " + slot, x.moon(0, 0, slot), -3);
            due.is("from and to " + slot, x.moon(0, slot, slot), -3);
        }
        due.is("from above to by one", x.moon(0, 5, 4), -3);
        due.is("from above to by all", x.moon(0, 9, 0), -3);
        due.is("all is wrong", x.moon(-1, 10, -1), -3);
        due.is("the older MOON stays", darkSlots(x, 0), 1023 & ~0b11100);
        due.is("from like to", x.moon(0, 5, 5), 1);
        due.is("one SLOT", darkSlots(x, 0), 1023 & ~0b100000);
        due.is("greatest REGION", x.moon(3, 0, 9), 1);
    }

    private static void seeingOfEachSky() {
        due.sentence("Promise 6", "SEEING of a SLOT by FORECAST (sky 0), TRUE SKY (1), of WORLD sky - 2: that which it was.");
        SharedNights x = new SharedNights();
        for (int world = 0; world < 4; world++) {
            x.world(1);
        }
        for (int sky = 0; sky < 6; sky++) {
            due.is("the first SLOT of SKY " + sky, x.seeing(sky, 0, (sky + 2) % 5), 1);
            due.is("the last SLOT of SKY " + sky, x.seeing(sky, 9, (sky + 3) % 5), 1);
        }
        for (int sky = 0; sky < 6; sky++) {
            due.is("each SKY has its own, SKY " + sky, x.seeing(sky, 0, 0), (sky + 2) % 5);
            due.is("each SLOT has its own, SKY " + sky, x.seeing(sky, 9, 0), (sky + 3) % 5);
            due.is("another SLOT stays, SKY " + sky, x.seeing(sky, 8, 1), 1);
        }
    }

    private static void seeingRefused() {
        due.sentence("Promise 6", "UNKNOWN: SLOT, WORLD (also sky below 0); OUTSIDE.");
        SharedNights x = new SharedNights();
        for (int worlds = 0; worlds <= 4; worlds++) {
            for (int sky : Glass.beyond(0, 1 + worlds)) {
                due.is("SKY " + sky + " with WORLDS " + worlds, x.seeing(sky, 0, 0), -2);
                due.is("SKY " + sky + " and SEEING 5", x.seeing(sky, 0, 5), -2);
            }
            for (int slot : Glass.beyond(0, 9)) {
                due.is("SLOT " + slot, x.seeing(1 + worlds, slot, 0), -2);
                due.is("SLOT " + slot + " and SEEING -1", x.seeing(1 + worlds, slot, -1), -2);
            }
            for (int v : Glass.beyond(0, 4)) {
                due.is("SEEING " + v, x.seeing(1 + worlds, 9, v), -3);
            }
            due.is("SEEING stays", x.seeing(1 + worlds, 9, 1), 1);
            x.world(1);
        }
    }

    private static void worldRefused() {
        due.sentence("Promise 7", "A WORLD as FORECAST is: its number. OUTSIDE: weight; FULL.");
        SharedNights x = new SharedNights();
        for (int worlds = 0; worlds <= 4; worlds++) {
            for (int weight : Glass.beyond(1, 9)) {
                due.is("weight " + weight + " with WORLDS " + worlds, x.world(weight), -3);
            }
            due.is("so many WORLDS", x.count(4), worlds);
            due.is("a WORLD more", x.world(worlds % 2 == 0 ? 1 : 9), worlds < 4 ? worlds : -5);
        }
        due.is("four WORLDS", x.count(4), 4);
        due.is("no fifth SKY of a WORLD", x.seeing(6, 0, 1), -2);
    }

    private static void worldAsForecast() {
        due.sentence("Promise 7", "A WORLD as FORECAST is: its number.");
        SharedNights x = new SharedNights();
        x.slots(12);
        x.seeing(1, 0, 4);
        for (int world = 0; world < 4; world++) {
            x.seeing(0, 0, world);
            x.seeing(0, 11, 4 - world);
            due.is("its number", x.world(1 + world), world);
        }
        for (int world = 0; world < 4; world++) {
            due.is("the first SLOT of WORLD " + world, x.seeing(2 + world, 0, 4), world);
            due.is("the last SLOT of WORLD " + world, x.seeing(2 + world, 11, 4), 4 - world);
        }
        due.is("FORECAST stays", x.seeing(0, 0, 1), 3);
        due.is("TRUE SKY stays", x.seeing(1, 0, 1), 4);
    }

    private static void unworld() {
        due.sentence("Promise 8", "No WORLDS any more: how many there were.");
        SharedNights x = new SharedNights();
        for (int worlds = 0; worlds <= 4; worlds++) {
            for (int world = 0; world < worlds; world++) {
                x.world(9);
                x.seeing(2 + world, 0, 4);
            }
            due.is("there were", x.unworld(), worlds);
            due.is("none", x.count(4), 0);
            due.is("no WORLD 0", x.seeing(2, 0, 1), -2);
            due.is("no VALUE", x.value(0, 0), -1);
            due.is("none to take away", x.unworld(), 0);
        }
        due.is("numbered from 0 anew", x.world(2), 0);
        due.is("as FORECAST is, not as it was", x.seeing(2, 0, 1), 1);
    }
}
