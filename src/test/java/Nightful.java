/** An object in which something of each kind stands: what a refused call could spoil. */
final class Nightful {
    private Nightful() {
    }

    static int make(SharedNights x) {
        x.slots(9);
        x.target(4, 8, 1);
        Glass.plan(x, "land 3 with 0 at 0 worth 4: expose 2 seeing 2 air 8");
        x.close(0);
        x.share(1, 7);
        x.again(1);
        x.seeing(0, 2, 3);
        x.seeing(1, 5, 4);
        x.world(2);
        x.seeing(0, 7, 0);
        x.world(5);
        x.moon(1, 3, 4);
        Glass.plan(x, "land 0 with 0 at 0 worth 9: expose 2 seeing 2 air 8, wait 1 to 2, expose 1 seeing 3 air 8");
        Glass.plan(x, "land 1 with 1 at 0 worth 6: expose 1 seeing 1 air 8 dark");
        Glass.plan(x, "land 2 with 2 at 0 worth 6: expose 3 seeing 1 air 8");
        Glass.write(x, "land 1 with 0 at 0 worth 1:expose 1");
        return x.count(3);
    }
}
