/** Promises 1 to 8: a new object, slots, target, air, moon, seeing, world, unworld. */
public final class NightsTest {
    private static final Due due = new Due("NightsTest");

    private NightsTest() {
    }

    public static void main(String[] args) {
        newObject();
        slots();
        slotsKeepTheRest();
        target();
        air();
        moon();
        seeing();
        world();
        refusals();
        due.end();
    }

    private static void newObject() {
        SharedNights x = new SharedNights();
        int[] counts = {10, 0, 0, 0, 0, 0, 0};
        for (int what = 0; what < counts.length; what++) {
            due.is("count " + what + " of a new object", x.count(what), counts[what]);
        }
        for (int slot = 0; slot < 10; slot++) {
            due.is("FORECAST at first", x.seeing(0, slot, 1), 1);
            due.is("TRUE SKY at first", x.seeing(1, slot, 1), 1);
        }
        for (int land = 0; land < 4; land++) {
            due.is("SHARE at first", x.share(land, 1), 1);
        }
        due.is("AGAIN at first", x.again(0), 0);
        due.is("NONE", SharedNights.NONE, -1);
        due.is("UNKNOWN", SharedNights.UNKNOWN, -2);
        due.is("OUTSIDE", SharedNights.OUTSIDE, -3);
        due.is("NOT", SharedNights.NOT, -4);
        due.is("FULL", SharedNights.FULL, -5);
    }

    private static void slots() {
        SharedNights x = new SharedNights();
        due.is("slots 4", x.slots(4), 10);
        due.is("slots 12", x.slots(12), 4);
        due.is("slots 3", x.slots(3), -3);
        due.is("slots 13", x.slots(13), -3);
        due.is("slots least int", x.slots(Integer.MIN_VALUE), -3);
        due.is("slots behind refusals", x.count(0), 12);
        due.is("slots 12 again", x.slots(12), 12);
        due.is("the last SLOT", x.seeing(0, 11, 1), 1);
        due.is("behind the last SLOT", x.seeing(0, 12, 1), -2);
    }

    private static void slotsKeepTheRest() {
        SharedNights x = Glass.withTargets(2);
        due.is("a dark plan", Glass.plan(x, "land 0 with 0 at 0 worth 5: expose 1 seeing 3 air 8 dark"), 0);
        Glass.write(x, "land");
        x.moon(0, 0, 9);
        x.seeing(0, 2, 4);
        x.seeing(1, 2, 3);
        x.world(5);
        due.is("placements under THE MOON", x.placements(0), 0);
        due.is("slots to the same N", x.slots(10), 10);
        due.is("no MOON, FORECAST 1", x.placements(0), 10);
        due.is("FORECAST", x.seeing(0, 2, 1), 1);
        due.is("TRUE SKY", x.seeing(1, 2, 1), 1);
        due.is("no WORLDS", x.count(4), 0);
        due.is("TARGETS stay", x.count(2), 2);
        due.is("PLANS stay", x.count(3), 1);
        due.is("THE TEXT stays", x.count(5), 4);
    }

    private static void target() {
        SharedNights x = new SharedNights();
        int[][] outside = {{-1, 0, 0}, {41, 0, 0}, {0, -1, 0}, {0, 9, 0}, {0, 0, -1}, {0, 0, 4}};
        for (int[] t : outside) {
            due.is("target out of its bounds", x.target(t[0], t[1], t[2]), -3);
        }
        due.is("the least TARGET", x.target(0, 0, 0), 0);
        due.is("the greatest TARGET", x.target(40, 8, 3), 1);
        for (int t = 2; t < 8; t++) {
            due.is("TARGET " + t, x.target(t, t, 1), t);
        }
        due.is("a ninth TARGET", x.target(1, 1, 1), -5);
        due.is("a ninth TARGET out of its bounds", x.target(41, 1, 1), -3);
        due.is("count of TARGETS", x.count(2), 8);
    }

    private static void air() {
        SharedNights x = new SharedNights();
        x.target(4, 3, 0);
        x.target(40, 8, 0);
        int[] airs = {-1, 3, 2, 1, 0, 1, 2, 3, -1, -1};
        for (int slot = 0; slot < 10; slot++) {
            due.is("air in SLOT " + slot, x.air(0, slot), airs[slot]);
            due.is("air of a far TARGET", x.air(1, slot), -1);
        }
        due.is("air of no TARGET", x.air(2, 0), -2);
        due.is("air of TARGET -1", x.air(-1, 0), -2);
        due.is("air in SLOT -1", x.air(0, -1), -2);
        due.is("air in SLOT N", x.air(0, 10), -2);
        x.close(0);
        due.is("air a night later", x.air(0, 3), 0);
        due.is("air a night later, at its end", x.air(0, 7), -1);
        due.is("air a night later, at its begin", x.air(0, 0), 3);
    }

    private static void moon() {
        SharedNights x = Glass.withTargets(4);
        Glass.plan(x, "land 0 with 0 at 1 worth 5: expose 1 seeing 3 air 8 dark");
        Glass.plan(x, "land 0 with 0 at 1 worth 5: expose 1 seeing 3 air 8");
        due.is("moon in another REGION", x.moon(0, 0, 9), 1);
        due.is("dark, moon elsewhere", x.placements(0), 10);
        due.is("moon", x.moon(1, 2, 4), 1);
        due.is("dark under THE MOON", x.placements(0), 7);
        due.is("first behind THE MOON", x.placement(0, 2), 32);
        due.is("not dark under THE MOON", x.placements(1), 10);
        due.is("moon anew, one SLOT", x.moon(1, 9, 9), 1);
        due.is("the older MOON is gone", x.placements(0), 9);
        due.is("moon in REGION 3", x.moon(3, 0, 9), 1);
        int[][] outside = {{-1, 0, 0}, {4, 0, 0}, {0, -1, 0}, {0, 0, 10}, {0, 10, 10}, {0, 5, 4}, {0, -2, -1}};
        for (int[] m : outside) {
            due.is("moon out of its bounds", x.moon(m[0], m[1], m[2]), -3);
        }
    }

    private static void seeing() {
        SharedNights x = new SharedNights();
        due.is("FORECAST is told", x.seeing(0, 0, 4), 1);
        due.is("FORECAST is told anew", x.seeing(0, 0, 0), 4);
        due.is("TRUE SKY is another", x.seeing(1, 0, 3), 1);
        due.is("TRUE SKY is told anew", x.seeing(1, 0, 2), 3);
        due.is("FORECAST stays", x.seeing(0, 0, 0), 0);
        due.is("no WORLD 0", x.seeing(2, 0, 1), -2);
        x.world(1);
        due.is("WORLD 0", x.seeing(2, 0, 4), 0);
        due.is("WORLD 0 anew", x.seeing(2, 0, 1), 4);
        due.is("no WORLD 1", x.seeing(3, 0, 1), -2);
        due.is("sky -1", x.seeing(-1, 0, 1), -2);
        due.is("SLOT -1", x.seeing(0, -1, 1), -2);
        due.is("SLOT N", x.seeing(0, 10, 1), -2);
        due.is("UNKNOWN ahead of OUTSIDE", x.seeing(0, 10, 5), -2);
        due.is("seeing -1", x.seeing(0, 0, -1), -3);
        due.is("seeing 5", x.seeing(0, 0, 5), -3);
        due.is("FORECAST behind refusals", x.seeing(0, 0, 1), 0);
    }

    private static void world() {
        SharedNights x = new SharedNights();
        x.seeing(0, 3, 2);
        due.is("weight 0", x.world(0), -3);
        due.is("weight 10", x.world(10), -3);
        due.is("weight 1", x.world(1), 0);
        x.seeing(0, 3, 4);
        due.is("weight 9", x.world(9), 1);
        due.is("WORLD 0 is as FORECAST was", x.seeing(2, 3, 2), 2);
        due.is("WORLD 1 is as FORECAST is", x.seeing(3, 3, 4), 4);
        x.seeing(3, 3, 0);
        due.is("FORECAST is apart from a WORLD", x.seeing(0, 3, 4), 4);
        due.is("WORLD 2", x.world(2), 2);
        due.is("WORLD 3", x.world(2), 3);
        due.is("a fifth WORLD", x.world(2), -5);
        due.is("a fifth WORLD out of its bounds", x.world(10), -3);
        due.is("count of WORLDS", x.count(4), 4);
        due.is("unworld", x.unworld(), 4);
        due.is("unworld anew", x.unworld(), 0);
        due.is("WORLD 0 is gone", x.seeing(2, 0, 1), -2);
        due.is("a WORLD from 0 on", x.world(5), 0);
        due.is("it is as FORECAST is", x.seeing(2, 3, 4), 4);
    }

    private static int eightTargets(SharedNights x) {
        for (int t = 0; t < 7; t++) {
            x.target(4, 8, 0);
        }
        return Nightful.make(x);
    }

    private static int fourWorlds(SharedNights x) {
        int made = Nightful.make(x);
        x.world(1);
        x.world(1);
        return made;
    }

    private static void refusals() {
        Glass.Call rich = Nightful::make;
        Glass.refused(due, "slots 13", rich, x -> x.slots(13), -3);
        Glass.refused(due, "target 0 9 0", rich, x -> x.target(0, 9, 0), -3);
        Glass.refused(due, "target full", NightsTest::eightTargets, x -> x.target(0, 0, 0), -5);
        Glass.refused(due, "moon 1 5 4", rich, x -> x.moon(1, 5, 4), -3);
        Glass.refused(due, "seeing 0 0 5", rich, x -> x.seeing(0, 0, 5), -3);
        Glass.refused(due, "seeing 4 0 1", rich, x -> x.seeing(4, 0, 1), -2);
        Glass.refused(due, "seeing 0 9 1", rich, x -> x.seeing(0, 9, 1), -2);
        Glass.refused(due, "world 0", rich, x -> x.world(0), -3);
        Glass.refused(due, "world full", NightsTest::fourWorlds, x -> x.world(3), -5);
    }
}
