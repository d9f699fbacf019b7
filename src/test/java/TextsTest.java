/** Promises 9 to 16: write, erase, fault, stands, plan, drop, told, worth. */
public final class TextsTest {
    private static final Due due = new Due("TextsTest");
    private static final String STEP = "expose 1 seeing 3 air 8";
    private static final String ONE = "land 0 with 0 at 0 worth 5 : " + STEP;
    private static final String THREE = ONE + " , wait 0 to 3 , " + STEP + " , wait 6 to 9 , " + STEP;

    private TextsTest() {
    }

    public static void main(String[] args) {
        write();
        fullText();
        eachPrefix();
        tokens();
        numbers();
        ends();
        readAnew();
        plan();
        drop();
        told();
        worth();
        refusals();
        due.end();
    }

    private static void write() {
        SharedNights x = Glass.withTargets(1);
        due.is("write 0 bytes", x.write(0L, 0), -3);
        due.is("write 9 bytes", x.write(0L, 9), -3);
        due.is("write -1 bytes", x.write(0L, -1), -3);
        due.is("erase nothing", x.erase(), 0);
        // "l" is byte 0: what stands behind n bytes of the long does not count.
        due.is("write one byte", x.write(Glass.packed("lxxxxxxx", 0, 8), 1), 1);
        due.is("write three more", x.write(Glass.packed("and", 0, 3), 3), 4);
        due.is("fault behind land", x.fault(), 4);
        due.is("number behind land", x.stands(), 2);
        due.is("write eight", x.write(-1L, 8), 12);
        due.is("bytes of 255", x.fault(), 4);
        due.is("erase", x.erase(), 12);
        due.is("erased", x.count(5), 0);
    }

    private static void fullText() {
        SharedNights x = Glass.withTargets(1);
        String blank = "        ";
        for (int i = 1; i < 20; i++) {
            due.is("eight blanks", x.write(Glass.packed(blank, 0, 8), 8), 8 * i);
        }
        x.write(Glass.packed(blank, 0, 4), 4);
        due.is("no room for eight", x.write(0L, 8), -5);
        due.is("no room for five", x.write(0L, 5), -5);
        due.is("room for four", x.write(Glass.packed(blank, 0, 4), 4), 160);
        due.is("no room for one", x.write(0L, 1), -5);
        due.is("OUTSIDE ahead of FULL", x.write(0L, 9), -3);
        due.is("fault at the end of 160 blanks", x.fault(), 160);
        due.is("the first word can stand there", x.stands(), 1);
        due.is("erase 160", x.erase(), 160);
        Glass.write(x, THREE + " ".repeat(160 - THREE.length()));
        due.is("160 bytes that are a PLAN", x.fault(), -1);
        due.is("plan of 160 bytes", x.plan(), 0);
        due.is("no text any more", x.count(5), 0);
        Glass.write(x, "1 ".repeat(80));
        due.is("160 bytes of tokens", x.fault(), 0);
    }

    /** Behind each token of the longest form: where the fault is, and what can stand there. */
    private static void eachPrefix() {
        String[] tokens = THREE.split(" ");
        int[] step = {1, 2, 1, 2, 1, 2};
        int[] can = new int[tokens.length + 1];
        int[] head = {1, 2, 1, 2, 1, 2, 1, 2, 4};
        System.arraycopy(head, 0, can, 0, 9);
        int[] wait = {28, 1, 2, 1, 2, 4};
        for (int j = 0; j < 3; j++) {
            System.arraycopy(step, 0, can, 9 + 12 * j, 6);
            System.arraycopy(wait, 0, can, 15 + 12 * j, j < 2 ? 6 : 1);
        }
        can[tokens.length] = 24;
        String text = "";
        for (int i = 0; i <= tokens.length; i++) {
            boolean whole = i == 15 || i == 27 || i == 39;
            due.is("fault behind '" + text + "'", Glass.fault(text, 1), whole ? -1 : text.length());
            due.is("stands behind '" + text + "'", Glass.stands(text, 1), whole ? 0 : can[i]);
            due.is("fault at a wrong byte behind '" + text + "'", Glass.fault(text + "!", 1), text.length());
            due.is("stands at a wrong byte behind '" + text + "'", Glass.stands(text + " !", 1), can[i]);
            due.is("fault at a strange word behind '" + text + "'", Glass.fault(text + " darkx", 1), text.length() + 1);
            due.is("fault at three digits behind '" + text + "'", Glass.fault(text + " 000", 1), text.length() + 1);
            if (i < tokens.length) {
                text += (i == 0 ? "" : " ") + tokens[i];
            }
        }
    }

    private static void tokens() {
        String tight = "land0with0at0worth5:expose1seeing3air8dark,wait0to3,expose1seeing3air8";
        due.is("no blanks", Glass.fault(tight, 1), -1);
        due.is("many blanks", Glass.fault("  " + ONE.replace(" ", "   ") + "  ", 1), -1);
        due.is("two digits", Glass.fault("land 00 with 02 at 00 worth 05:expose 04 seeing 03 air 08", 1), -1);
        due.is("three digits", Glass.fault("land 000 with", 1), 5);
        due.is("a hundred digits", Glass.fault("land " + "0".repeat(100), 1), 5);
        due.is("a word too long", Glass.fault("landx 0", 1), 0);
        due.is("a word too short", Glass.fault("lan 0", 1), 0);
        due.is("a word but for its begin", Glass.fault("xand 0", 1), 0);
        due.is("a word but for its end", Glass.fault("lanx 0", 1), 0);
        due.is("the last letter behind a word", Glass.fault("landz 0", 1), 0);
        due.is("the first letter behind a word", Glass.fault("landa 0", 1), 0);
        due.is("a great letter", Glass.fault("Land 0", 1), 0);
        due.is("a byte 0", Glass.fault("\u0000", 1), 0);
        due.is("a tab", Glass.fault("land\t0", 1), 4);
        due.is("byte 96", Glass.fault("land`", 1), 4);
        due.is("byte 123", Glass.fault("land{", 1), 4);
        due.is("byte 47", Glass.fault("land /", 1), 5);
        due.is("byte 59", Glass.fault("land ;", 1), 5);
        due.is("comma for colon", Glass.fault("land 0 with 0 at 0 worth 5 ,", 1), 27);
        due.is("colon for comma", Glass.fault(ONE + ":", 1), ONE.length());
        due.is("a number for a word", Glass.fault("land 0 0", 1), 7);
        due.is("a word for a number", Glass.fault("land land", 1), 5);
        due.is("the next word of another place", Glass.fault("land 0 at 0", 1), 7);
        due.is("two signs", Glass.fault("land 0 with 0 at 0 worth 5 :: expose", 1), 28);
    }

    /** A number of the form at its least and greatest, and one beyond each. */
    private static void bounds(String ahead, String behind, int least, int most) {
        due.is("least: " + ahead + least, Glass.fault(ahead + least + behind, 3), -1);
        due.is("greatest: " + ahead + most, Glass.fault(ahead + most + behind, 3), -1);
        due.is("above: " + ahead + (most + 1), Glass.fault(ahead + (most + 1) + behind, 3), ahead.length());
        due.is("stands for it", Glass.stands(ahead + (most + 1) + behind, 3), 2);
        if (least > 0) {
            due.is("below: " + ahead + (least - 1), Glass.fault(ahead + (least - 1) + behind, 3), ahead.length());
        }
    }

    private static void numbers() {
        bounds("land ", " with 0 at 0 worth 5 : " + STEP, 0, 3);
        bounds("land 0 with ", " at 0 worth 5 : " + STEP, 0, 2);
        bounds("land 0 with 0 at ", " worth 5 : " + STEP, 0, 2);
        bounds("land 0 with 0 at 0 worth ", " : " + STEP, 1, 99);
        String head = "land 0 with 0 at 0 worth 5 : ";
        bounds(head + "expose ", " seeing 3 air 8", 1, 4);
        bounds(head + "expose 1 seeing ", " air 8", 0, 3);
        bounds(head + "expose 1 seeing 3 air ", "", 0, 8);
        due.is("wait 6", Glass.fault(ONE + ", wait 6 to 6, " + STEP, 1), -1);
        due.is("wait 0", Glass.fault(ONE + ", wait 0 to 0, " + STEP, 1), -1);
        due.is("wait 7", Glass.fault(ONE + ", wait 7 to 7, " + STEP, 1), ONE.length() + 7);
        bounds(ONE + ", wait 2 to ", ", " + STEP, 2, 5);
        bounds(ONE + ", wait 6 to ", ", " + STEP, 6, 9);
        due.is("no TARGET at all", Glass.fault(ONE, 0), 17);
        due.is("no TARGET at all, what stands", Glass.stands(ONE, 0), 2);
        due.is("TARGET 7 of eight", Glass.fault(ONE.replace("at 0", "at 7"), 8), -1);
    }

    private static void ends() {
        due.is("empty", Glass.fault("", 0), 0);
        due.is("empty, stands", Glass.stands("", 0), 1);
        due.is("blanks behind", Glass.fault("land  ", 0), 6);
        due.is("dark", Glass.fault(ONE + " dark", 1), -1);
        due.is("dark, stands", Glass.stands(ONE + " dark", 1), 0);
        due.is("dark twice", Glass.stands(ONE + " dark dark", 1), 12);
        due.is("dark twice in the last STEP", Glass.stands(THREE + " dark dark", 1), 8);
        due.is("a fourth STEP", Glass.fault(THREE + ", wait 0 to 0", 1), THREE.length());
        due.is("a fourth STEP, stands", Glass.stands(THREE + ", wait 0 to 0", 1), 24);
        due.is("a fourth STEP behind dark", Glass.stands(THREE + " dark, wait 0 to 0", 1), 8);
        due.is("no STEP behind a wait", Glass.stands(ONE + ", wait 0 to 1", 1), 4);
        due.is("a wait without a comma", Glass.fault(ONE + " wait 0 to 1", 1), ONE.length() + 1);
    }

    /** Nothing of a text that was read is left in the next one. */
    private static void readAnew() {
        SharedNights x = Glass.withTargets(1);
        Glass.write(x, ONE);
        due.is("a FAULT behind a PLAN", x.write(33, 1) - x.fault(), 1);
        due.is("stands at it", x.stands(), 28);
        x.erase();
        Glass.write(x, THREE.replace("air 8", "air 8 dark"));
        due.is("no FAULT any more", x.fault(), -1);
        due.is("nothing stands", x.stands(), 0);
        x.erase();
        due.is("the next text", Glass.plan(x, THREE), 0);
        due.is("STEP 0 is not dark", x.told(0, 13), 0);
        due.is("STEP 1 is not dark", x.told(0, 23), 0);
        due.is("STEP 2 is not dark", x.told(0, 33), 0);
        due.is("a text of one STEP", Glass.plan(x, ONE), 1);
        due.is("it has one", x.told(1, 4), 1);
    }

    private static void plan() {
        SharedNights x = Glass.withTargets(1);
        due.is("an empty text is no PLAN", x.plan(), -4);
        Glass.write(x, ONE + " ,");
        due.is("a text with a FAULT", x.plan(), -4);
        due.is("it stays", x.count(5), ONE.length() + 2);
        x.erase();
        for (int p = 0; p < 5; p++) {
            due.is("PLAN " + p, Glass.plan(x, ONE), p);
            due.is("THE TEXT is empty then", x.count(5), 0);
        }
        due.is("NOT ahead of FULL", x.plan(), -4);
        due.is("a sixth PLAN", Glass.plan(x, ONE), -5);
        due.is("its text stays", x.count(5), ONE.length());
        due.is("no PLAN more", x.count(3), 5);
        due.is("room anew", x.drop(4), 1);
        due.is("the same text", x.plan(), 4);
    }

    private static void drop() {
        SharedNights x = Glass.withTargets(1);
        due.is("drop of nothing", x.drop(0), -2);
        for (int p = 0; p < 4; p++) {
            Glass.plan(x, ONE.replace("worth 5", "worth " + (10 + p)));
        }
        due.is("drop -1", x.drop(-1), -2);
        due.is("drop behind the last", x.drop(4), -2);
        due.is("drop 1", x.drop(1), 1);
        int[] worths = {10, 12, 13};
        for (int p = 0; p < 3; p++) {
            due.is("WORTH behind drop", x.told(p, 3), worths[p]);
        }
        due.is("one PLAN less", x.told(3, 3), -2);
        due.is("drop the last", x.drop(2), 1);
        due.is("drop the first", x.drop(0), 1);
        due.is("the one left", x.told(0, 3), 12);
        due.is("a PLAN more", Glass.plan(x, ONE), 1);
        due.is("it is as told", x.told(1, 3), 5);
        due.is("the one left stays", x.told(0, 3), 12);
        Glass.write(x, ONE.replace("worth 5", "worth 77"));
        due.is("a text is read", x.fault(), -1);
        due.is("reading changes no PLAN", x.told(0, 3), 12);
        due.is("reading changes no other PLAN", x.told(1, 3), 5);
    }

    private static void told() {
        SharedNights x = Glass.withTargets(3);
        String steps = "expose 4 seeing 0 air 7 dark, wait 1 to 3, expose 2 seeing 1 air 6, wait 5 to 8, expose 3 seeing 2 air 5 dark";
        due.is("three STEPS", Glass.plan(x, "land 3 with 2 at 1 worth 98: " + steps), 0);
        due.is("one STEP", Glass.plan(x, ONE), 1);
        int[][] facts = {{0, 3}, {1, 2}, {2, 1}, {3, 98}, {4, 3}, {10, 4}, {11, 0}, {12, 7}, {13, 1}, {20, 2}, {21, 1},
            {22, 6}, {23, 0}, {24, 1}, {25, 3}, {30, 3}, {31, 2}, {32, 5}, {33, 1}, {34, 5}, {35, 8}};
        for (int[] fact : facts) {
            due.is("told 0 " + fact[0], x.told(0, fact[0]), fact[1]);
            due.is("told 2 " + fact[0], x.told(2, fact[0]), -2);
        }
        due.is("how many STEPS", x.told(1, 4), 1);
        for (int what = 20; what < 36; what++) {
            boolean fact = what < 26 || what >= 30;
            due.is("told 1 " + what, x.told(1, what), fact ? -1 : -3);
        }
        int[] outside = {-1, 5, 9, 14, 15, 19, 26, 29, 36, 40, 44, Integer.MAX_VALUE, Integer.MIN_VALUE};
        for (int what : outside) {
            due.is("told 0 " + what, x.told(0, what), -3);
        }
        due.is("told -1 0", x.told(-1, 0), -2);
        due.is("UNKNOWN ahead of OUTSIDE", x.told(5, 5), -2);
    }

    private static void worth() {
        SharedNights x = Glass.withTargets(1);
        Glass.plan(x, ONE);
        due.is("WORTH 99", x.worth(0, 99), 5);
        due.is("WORTH 1", x.worth(0, 1), 99);
        due.is("WORTH 0", x.worth(0, 0), -3);
        due.is("WORTH 100", x.worth(0, 100), -3);
        due.is("WORTH of no PLAN", x.worth(1, 5), -2);
        due.is("WORTH of PLAN -1", x.worth(-1, 0), -2);
        due.is("WORTH is told", x.told(0, 3), 1);
        due.is("WORTH counts", x.best(0), 1);
    }

    private static int fullBook(SharedNights x) {
        Nightful.make(x);
        x.erase();
        Glass.plan(x, ONE);
        Glass.plan(x, ONE);
        Glass.write(x, ONE);
        return x.count(3);
    }

    private static int fullText(SharedNights x) {
        Nightful.make(x);
        while (x.count(5) < 156) {
            x.write(32, 1);
        }
        return x.count(5);
    }

    private static void refusals() {
        Glass.Call rich = Nightful::make;
        Glass.refused(due, "write 0 0", rich, x -> x.write(0L, 0), -3);
        Glass.refused(due, "write, full", TextsTest::fullText, x -> x.write(0L, 5), -5);
        Glass.refused(due, "plan with a FAULT", rich, SharedNights::plan, -4);
        Glass.refused(due, "plan, full", TextsTest::fullBook, SharedNights::plan, -5);
        Glass.refused(due, "drop 3", rich, x -> x.drop(3), -2);
        Glass.refused(due, "told 0 5", rich, x -> x.told(0, 5), -3);
        Glass.refused(due, "worth 0 100", rich, x -> x.worth(0, 100), -3);
        Glass.refused(due, "worth 3 1", rich, x -> x.worth(3, 1), -2);
    }
}
