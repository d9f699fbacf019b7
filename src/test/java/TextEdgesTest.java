import java.util.ArrayList;
import java.util.List;

/** The bounds that the document names for THE TEXT and PLANS: Terms 2, promises 9 to 16. */
public final class TextEdgesTest {
    private static final Due due = new Due("TextEdgesTest");
    private static final String HEAD = "land 0 with 0 at 0 worth 5 : ";
    private static final String STEP = "expose 1 seeing 3 air 8";
    private static final String WAIT = " , wait 2 to 3 , ";
    private static final String ONE = HEAD + STEP;
    private static final String THREE = HEAD + STEP + " dark" + WAIT + STEP + " dark" + WAIT + STEP + " dark";

    private TextEdgesTest() {
    }

    public static void main(String[] args) {
        text160();
        textOf160IsRead();
        letters();
        digits();
        signs();
        blanks();
        oneTwoOrThreeSteps();
        darkOrNot();
        numbersOfTheHead();
        aTarget();
        numbersOfSteps();
        waits();
        smallWords();
        firstFault();
        faultAtTheEnd();
        canStandNowhere();
        whatCanStand();
        plansFiveAtMost();
        writeOneToEight();
        byteI();
        writeRefused();
        erase();
        faultNone();
        standsZero();
        planEmptiesTheText();
        planRefused();
        drop();
        dropRefused();
        toldEachFact();
        toldNoSuchStep();
        toldRefused();
        worth();
        worthRefused();
        due.end();
    }

    private static void reads(String what, String text, int fault, int stands) {
        SharedNights x = Glass.withTargets(1);
        Glass.write(x, text);
        due.is("fault, " + what, x.fault(), fault);
        due.is("stands, " + what, x.stands(), stands);
        due.is("plan, " + what, x.plan(), fault == -1 ? 0 : -4);
        due.is("bytes left, " + what, x.count(5), fault == -1 ? 0 : text.length());
    }

    // ---- Terms: THE TEXT and its TOKENS

    private static SharedNights withBlanks(int bytes) {
        SharedNights x = Glass.withTargets(1);
        Glass.write(x, " ".repeat(bytes));
        return x;
    }

    private static void text160() {
        due.sentence("Terms", "THE TEXT is a row of bytes, 160 at most.");
        for (int size = 152; size <= 160; size++) {
            for (int n = 1; n <= 8; n++) {
                SharedNights x = withBlanks(size);
                boolean room = size + n <= 160;
                due.is("write " + n + " behind " + size, x.write(0L, n), room ? size + n : -5);
                due.is("bytes then", x.count(5), room ? size + n : size);
                due.is("nothing of it stays if it is refused", x.fault(), size);
            }
        }
    }

    private static void textOf160IsRead() {
        due.sentence("Terms", "THE TEXT is a row of bytes, 160 at most.");
        reads("a PLAN of 160 bytes", " ".repeat(160 - THREE.length()) + THREE, -1, 0);
        reads("a PLAN and blanks to 160", THREE + " ".repeat(160 - THREE.length()), -1, 0);
        reads("the last byte is wrong", ONE + " ".repeat(159 - ONE.length()) + "!", 159, 28);
        reads("the last byte is a sign", ONE + " ".repeat(159 - ONE.length()) + ",", 160, 1);
        reads("160 blanks", " ".repeat(160), 160, 1);
        reads("160 letters", "l".repeat(160), 0, 1);
        reads("160 digits", "0".repeat(160), 0, 1);
        reads("a word up to the last byte", " ".repeat(156) + "land", 160, 2);
        reads("a number in the last byte", " ".repeat(155) + "land0", 160, 1);
    }

    private static void letters() {
        due.sentence("Terms", "TOKENS: words of letters a .. z");
        for (int b = 0; b < 256; b++) {
            boolean letter = b >= 'a' && b <= 'z';
            boolean land = b >= '0' && b <= '3';
            int fault = letter ? 0 : land || b == 32 ? 5 : 4;
            reads("byte " + b + " behind a word", "land" + (char) b, fault, letter || land ? 1 : 2);
        }
        reads("no letter below a", "`and 0", 0, 1);
        reads("no great letter", "LAND 0", 0, 1);
        reads("a letter more: a", "aland 0", 0, 1);
        reads("a letter more: z", "landz 0", 0, 1);
    }

    private static void digits() {
        due.sentence("Terms", "numbers of 1 or 2 digits");
        reads("one digit", ONE, -1, 0);
        reads("two digits", "land 00 with 00 at 00 worth 05:expose 01 seeing 03 air 08", -1, 0);
        reads("the greatest of two digits", ONE.replace("worth 5", "worth 99"), -1, 0);
        reads("three digits", ONE.replace("worth 5", "worth 005"), 25, 2);
        reads("three digits, above two", ONE.replace("worth 5", "worth 100"), 25, 2);
        reads("four digits", ONE.replace("worth 5", "worth 0005"), 25, 2);
        reads("two digits and a blank between", ONE.replace("worth 5", "worth 0 5"), 25, 2);
        reads("a digit and then another one apart", ONE.replace("worth 5", "worth 5 5"), 27, 4);
        for (int b = 0; b < 256; b++) {
            boolean land = b >= '0' && b <= '3';
            int fault = land || b == 32 ? 6 : 5;
            reads("byte " + b + " for a number", "land " + (char) b, fault, land ? 1 : 2);
        }
        reads("ten digits, wrapping round to a number", ONE.replace("worth 5", "worth 4294967301"), 25, 2);
    }

    private static void signs() {
        due.sentence("Terms", "the signs : (58) and , (44)");
        String head = "land 0 with 0 at 0 worth 5 ";
        for (int b = 0; b < 256; b++) {
            boolean colon = b == 58;
            reads("byte " + b + " for a colon", head + (char) b, colon || b == 32 ? 28 : 27, colon ? 1 : 4);
            if (b != 32) {
                boolean comma = b == 44;
                int place = ONE.length() + 1;
                reads("byte " + b + " for a comma", ONE + " " + (char) b, comma ? place + 1 : place, comma ? 1 : 28);
            }
        }
        String wait = ONE + ", wait 0 to 0 ";
        reads("a colon behind a wait", wait + ": " + STEP, wait.length(), 4);
        reads("a comma behind a wait", wait + ", " + STEP, -1, 0);
        reads("two commas", wait + ",, " + STEP, wait.length() + 1, 1);
    }

    private static void blanks() {
        due.sentence("Terms", "blanks (32) part them");
        reads("no blanks beside signs", "land 0 with 0 at 0 worth 5:expose 1 seeing 3 air 8,wait 0 to 0,expose 1 seeing 3 air 8", -1, 0);
        reads("three blanks each", "   " + ONE.replace(" ", "   "), -1, 0);
        reads("a blank in a word", ONE.replace("with", "wi th"), 7, 1);
        reads("a blank in a number", ONE.replace("worth 5", "worth 1 5"), 27, 4);
        reads("words side by side", "landwith", 0, 1);
        reads("byte 31 is no blank", "land" + (char) 31 + "0", 4, 2);
        reads("byte 33 is no blank", "land" + (char) 33 + "0", 4, 2);
        reads("byte 160 is no blank", "land" + (char) 160 + "0", 4, 2);
        reads("a tab is no blank", "land\t0", 4, 2);
        reads("a line's end is no blank", "land\n0", 4, 2);
    }

    // ---- Terms: the form

    private static void oneTwoOrThreeSteps() {
        due.sentence("Terms", "A PLAN is told so: land L with I at T worth V : STEP , wait A to B , STEP , wait A to B , STEP "
                + "(one, two or three STEPS).");
        String more = WAIT + STEP;
        reads("none", HEAD, HEAD.length(), 1);
        reads("none, without its blank", HEAD.trim(), HEAD.length() - 1, 1);
        reads("one", ONE, -1, 0);
        reads("two", ONE + more, -1, 0);
        reads("three", ONE + more + more, -1, 0);
        String three = ONE + more + more;
        reads("four", HEAD + STEP + (",wait 2 to 3," + STEP).repeat(3), HEAD.length() + 3 * STEP.length() + 26, 24);
        reads("a wait behind three", three + ",", three.length(), 24);
        reads("a wait behind one", ONE + ", wait 2 to 3", ONE.length() + 13, 4);
        reads("a wait and a sign behind two", ONE + more + ", wait 2 to 3,", (ONE + more).length() + 14, 1);
        reads("two STEPS without a wait", ONE + ", " + STEP, ONE.length() + 2, 1);
        for (int steps = 1; steps <= 3; steps++) {
            SharedNights x = Glass.withTargets(1);
            due.is("plan of so many STEPS", Glass.plan(x, ONE + more.repeat(steps - 1)), 0);
            due.is("STEPS", x.told(0, 4), steps);
        }
    }

    private static void darkOrNot() {
        due.sentence("Terms", "STEP: expose K seeing S air R, and dark behind it or not.");
        for (int bits = 0; bits < 8; bits++) {
            String text = HEAD;
            for (int j = 0; j < 3; j++) {
                text += (j == 0 ? "" : WAIT) + STEP + ((bits >> j & 1) == 1 ? " dark" : "");
            }
            SharedNights x = Glass.withTargets(1);
            // Another text that was read ahead of it leaves nothing.
            Glass.write(x, THREE);
            x.fault();
            x.erase();
            due.is("plan", Glass.plan(x, text), 0);
            for (int j = 0; j < 3; j++) {
                due.is("STEP " + j + " is dark, " + bits, x.told(0, 13 + 10 * j), bits >> j & 1);
            }
        }
        reads("dark twice", ONE + " dark dark", ONE.length() + 6, 12);
        reads("dark twice in the third STEP", THREE + " dark", THREE.length() + 1, 8);
        reads("dark ahead of air", HEAD + "expose 1 seeing 3 dark air 8", HEAD.length() + 18, 1);
        reads("dark for a STEP", HEAD + "dark", HEAD.length(), 1);
        reads("dark behind a wait", ONE + ", wait 0 to 0 dark", ONE.length() + 14, 4);
        reads("dark at first", "dark", 0, 1);
    }

    /** Each number of one or two digits at one place of the form: it can stand there if it is within its bounds. */
    private static void each(String ahead, String behind, int least, int most) {
        for (int v = 0; v < 100; v++) {
            boolean good = v >= least && v <= most;
            int fault = good ? -1 : ahead.length();
            reads(v + " behind '" + ahead + "'", ahead + v + behind, fault, good ? 0 : 2);
        }
        reads("0" + most + " behind '" + ahead + "'", ahead + (most < 10 ? "0" : "") + most + behind, -1, 0);
        reads("three digits behind '" + ahead + "'", ahead + "00" + least + behind, ahead.length(), 2);
        reads("a sign for a minus behind '" + ahead + "'", ahead + "-" + least + behind, ahead.length(), 2);
        reads("nothing behind '" + ahead + "'", ahead, ahead.length(), 2);
    }

    private static void numbersOfTheHead() {
        due.sentence("Terms", "L is 0 .. 3 (the LAND)");
        each("land ", " with 0 at 0 worth 5 : " + STEP, 0, 3);
        due.sentence("Terms", "I 0 .. 2 (the INSTRUMENT)");
        each("land 0 with ", " at 0 worth 5 : " + STEP, 0, 2);
        due.sentence("Terms", "V 1 .. 99 (WORTH)");
        each("land 0 with 0 at 0 worth ", " : " + STEP, 1, 99);
    }

    private static void aTarget() {
        due.sentence("Terms", "T a TARGET");
        SharedNights x = new SharedNights();
        for (int targets = 0; targets <= 8; targets++) {
            for (int t = 0; t <= 9; t++) {
                x.erase();
                Glass.write(x, "land 0 with 0 at " + t);
                due.is("fault, TARGET " + t + " of " + targets, x.fault(), t < targets ? 18 : 17);
                due.is("stands, TARGET " + t + " of " + targets, x.stands(), t < targets ? 1 : 2);
            }
            x = Glass.withTargets(targets + 1);
        }
        SharedNights y = new SharedNights();
        Glass.write(y, ONE);
        due.is("no TARGETS", y.fault(), 17);
        due.is("what can stand there", y.stands(), 2);
        due.is("no PLAN", y.plan(), -4);
        y.target(0, 0, 0);
        due.is("the same text with a TARGET", y.fault(), -1);
        due.is("a PLAN", y.plan(), 0);
    }

    private static void numbersOfSteps() {
        String[] aheads = {HEAD, ONE + WAIT, ONE + WAIT + STEP + WAIT};
        due.sentence("Terms", "K 1 .. 4 (SLOTS)");
        for (String ahead : aheads) {
            each(ahead + "expose ", " seeing 3 air 8", 1, 4);
        }
        due.sentence("Terms", "S 0 .. 3");
        for (String ahead : aheads) {
            each(ahead + "expose 1 seeing ", " air 8", 0, 3);
        }
        due.sentence("Terms", "R 0 .. 8");
        for (String ahead : aheads) {
            each(ahead + "expose 1 seeing 3 air ", "", 0, 8);
        }
    }

    private static void waits() {
        String[] aheads = {ONE + ", wait ", ONE + WAIT + STEP + ", wait "};
        due.sentence("Terms", "A 0 .. 6");
        for (String ahead : aheads) {
            for (int a = 0; a < 100; a++) {
                boolean good = a <= 6;
                reads("wait " + a, ahead + a + " to " + a + ", " + STEP, good ? -1 : ahead.length(), good ? 0 : 2);
            }
        }
        due.sentence("Terms", "B A .. A + 3.");
        for (String ahead : aheads) {
            for (int a = 0; a <= 6; a++) {
                each(ahead + a + " to ", ", " + STEP, a, a + 3);
            }
        }
        // The second wait has bounds of its own.
        String text = ONE + ", wait 6 to 9, " + STEP + ", wait 0 to ";
        each(text, ", " + STEP, 0, 3);
    }

    private static void smallWords() {
        due.sentence("Terms", "(All small words of the form as they stand here.)");
        String[] tokens = THREE.split(" ");
        String[] others = {"land", "with", "at", "worth", "expose", "seeing", "air", "dark", "wait", "to", "and", "a"};
        for (int i = 0; i < tokens.length; i++) {
            if (!Character.isLetter(tokens[i].charAt(0))) {
                continue;
            }
            String word = tokens[i];
            wrongWord(tokens, i, word + "s");
            wrongWord(tokens, i, "a" + word);
            wrongWord(tokens, i, word.substring(1));
            wrongWord(tokens, i, word.substring(0, word.length() - 1));
            wrongWord(tokens, i, word.toUpperCase());
            wrongWord(tokens, i, Character.toUpperCase(word.charAt(0)) + word.substring(1));
            for (int at = 0; at < word.length(); at++) {
                wrongWord(tokens, i, word.substring(0, at) + "q" + word.substring(at + 1));
            }
            for (String other : others) {
                if (!other.equals(word)) {
                    wrongWord(tokens, i, other);
                }
            }
        }
    }

    /** Another word for token i: the FAULT is there, and the same could stand there as ahead of it. */
    private static void wrongWord(String[] tokens, int i, String word) {
        String[] text = tokens.clone();
        text[i] = word;
        String all = String.join(" ", text);
        int place = String.join(" ", List.of(text).subList(0, i)).length() + (i == 0 ? 0 : 1);
        // A word that loses its great first letter begins with a byte that is none of the TOKENS: the place is the same.
        int can = !tokens[i].equals("dark") ? 1 : i + 1 == tokens.length ? 24 : 28;
        reads("'" + word + "' for '" + tokens[i] + "'", all, place, can);
    }

    private static void firstFault() {
        due.sentence("Terms", "A FAULT is at the first TOKEN that cannot stand there (also a number out of its bounds)");
        reads("two numbers out of their bounds", "land 4 with 3", 5, 2);
        reads("a number out of its bounds ahead of a wrong byte", "land 4 !", 5, 2);
        reads("a wrong byte ahead of a number", "land 0 ! with 3", 7, 1);
        reads("wrong from the first byte", "! land 4", 0, 1);
        reads("the end comes behind a FAULT", "land 4", 5, 2);
        reads("a FAULT behind blanks", "   x", 3, 1);
        reads("a number too great by one", "land 0 with 0 at 1 worth 5", 17, 2);
        reads("a number too small by one", "land 0 with 0 at 0 worth 0 :", 25, 2);
    }

    private static void faultAtTheEnd() {
        due.sentence("Terms", "or at the end of THE TEXT, if more must come: its place (the byte with which that TOKEN begins, "
                + "or how many bytes THE TEXT has)");
        reads("empty", "", 0, 1);
        reads("one blank", " ", 1, 1);
        String[] tokens = THREE.split(" ");
        int[] cans = cans();
        String text = "";
        for (int i = 0; i < tokens.length; i++) {
            boolean whole = (cans[i] & 8) != 0;
            reads("the end behind " + i + " TOKENS", text, whole ? -1 : text.length(), whole ? 0 : cans[i]);
            reads("the end behind blanks", text + "  ", whole ? -1 : text.length() + 2, whole ? 0 : cans[i]);
            text += (i == 0 ? "" : " ") + tokens[i];
        }
        reads("all of it", text, -1, 0);
    }

    /** What can stand at each place of the longest form, and behind it. */
    private static int[] cans() {
        List<Integer> all = new ArrayList<>(List.of(1, 2, 1, 2, 1, 2, 1, 2, 4));
        for (int j = 0; j < 3; j++) {
            all.addAll(List.of(1, 2, 1, 2, 1, 2));
            all.addAll(j < 2 ? List.of(28, 12, 1, 2, 1, 2, 4) : List.of(24, 8));
        }
        int[] cans = new int[all.size()];
        for (int i = 0; i < cans.length; i++) {
            cans[i] = all.get(i);
        }
        return cans;
    }

    private static void canStandNowhere() {
        due.sentence("Terms", "A byte that is none of these, more than 2 digits side by side, and each other word are TOKENS "
                + "that can stand nowhere.");
        String[] tokens = THREE.split(" ");
        String[] nowhere = {"!", "\u0000", "\u00ff", ".", "-", "000", "001", "0000", "x", "exposed", "night", "A", "%"};
        int[] cans = cans();
        String text = "";
        for (int i = 0; i <= tokens.length; i++) {
            for (String wrong : nowhere) {
                String ahead = i == 0 ? "" : text + " ";
                reads("'" + wrong + "' at place " + i, ahead + wrong, ahead.length(), cans[i]);
            }
            if (i < tokens.length) {
                text += (i == 0 ? "" : " ") + tokens[i];
            }
        }
    }

    private static void whatCanStand() {
        due.sentence("Terms", "What CAN stand there: 1 the next word of the form, 2 a number, 4 a sign, 8 the end, 16 dark (by bits).");
        String two = ONE + WAIT + STEP;
        String three = two + WAIT + STEP;
        reads("1 the next word", "land 0", 6, 1);
        reads("2 a number", "land", 4, 2);
        reads("4 a sign: colon", "land 0 with 0 at 0 worth 5", 26, 4);
        reads("4 a sign: comma", ONE + ", wait 0 to 0", ONE.length() + 13, 4);
        String[] wholes = {ONE, ONE + " dark", two, two + " dark", three, three + " dark"};
        int[] cans = {4 + 8 + 16, 4 + 8, 4 + 8 + 16, 4 + 8, 8 + 16, 8};
        for (int i = 0; i < wholes.length; i++) {
            reads("behind a whole PLAN", wholes[i], -1, 0);
            reads("a word behind a whole PLAN", wholes[i] + " wait", wholes[i].length() + 1, cans[i]);
            reads("a number behind a whole PLAN", wholes[i] + " 8", wholes[i].length() + 1, cans[i]);
            reads("a colon behind a whole PLAN", wholes[i] + ":", wholes[i].length(), cans[i]);
        }
    }

    private static void plansFiveAtMost() {
        due.sentence("Terms", "PLANS are numbered from 0, 5 at most.");
        SharedNights x = Glass.withTargets(1);
        due.is("no PLANS", x.count(3), 0);
        for (int p = 0; p < 5; p++) {
            due.is("PLAN " + p, Glass.plan(x, ONE.replace("worth 5", "worth " + (10 + p))), p);
            due.is("so many", x.count(3), p + 1);
            due.is("none behind it", x.told(p + 1, 3), -2);
        }
        due.is("a sixth PLAN", Glass.plan(x, ONE), -5);
        due.is("five", x.count(3), 5);
        for (int p = 0; p < 5; p++) {
            due.is("WORTH of PLAN " + p, x.told(p, 3), 10 + p);
        }
        due.is("no PLAN 5", x.told(5, 3), -2);
    }

    // ---- promises

    private static void writeOneToEight() {
        due.sentence("Promise 9", "n (1 .. 8) bytes more of THE TEXT");
        int size = 0;
        SharedNights x = new SharedNights();
        for (int n = 1; n <= 8; n++) {
            size += n;
            due.is("write " + n, x.write(0x2020202020202020L, n), size);
            due.is("bytes", x.count(5), size);
            due.is("all of them are blanks", x.fault(), size);
        }
        for (int n : Glass.beyond(1, 8)) {
            due.is("write " + n, x.write(0x2020202020202020L, n), -3);
        }
        due.is("bytes stay", x.count(5), size);
    }

    private static void byteI() {
        due.sentence("Promise 9", "byte i being bytes >> 8 i & 255");
        for (int i = 0; i < 8; i++) {
            for (int b = 0; b < 256; b++) {
                SharedNights x = new SharedNights();
                // All blanks but byte i: where the FAULT is tells which byte it is, the highest bit of the long too.
                long bytes = 0x2020202020202020L & ~(255L << 8 * i) | (long) b << 8 * i;
                x.write(bytes, 8);
                due.is("byte " + i + " is " + b, x.fault(), b == 32 ? 8 : i);
            }
        }
        SharedNights x = new SharedNights();
        for (int i = 0; i < 8; i++) {
            x.write("land 0 w".charAt(i) | -256L, 1);
        }
        due.is("what stands behind n bytes is left out", x.write(-1L & ~0xffffffL | 'i' | 't' << 8 | 'h' << 16, 3), 11);
        due.is("only those bytes are there", x.fault(), 11);
        due.is("a number comes", x.stands(), 2);
        due.is("eight bytes of 255", x.write(-1L, 8), 19);
        due.is("the first of them is the FAULT", x.fault(), 11);
    }

    private static void writeRefused() {
        due.sentence("Promise 9", "how many it has. OUTSIDE; FULL.");
        for (int size : new int[] {0, 1, 152, 153, 159, 160}) {
            SharedNights x = withBlanks(size);
            for (int n : new int[] {0, -1, 9, 10, Integer.MIN_VALUE, Integer.MAX_VALUE}) {
                due.is("write " + n + " behind " + size, x.write(0L, n), -3);
            }
            for (int n = 161 - size; n <= 8; n++) {
                if (n >= 1) {
                    due.is("no room for " + n + " behind " + size, x.write(0L, n), -5);
                }
            }
            due.is("bytes stay", x.count(5), size);
            due.is("all are blanks still", x.fault(), size);
        }
    }

    private static void erase() {
        due.sentence("Promise 10", "THE TEXT is empty: how many bytes it had.");
        for (int size : new int[] {0, 1, 8, 159, 160}) {
            SharedNights x = withBlanks(size);
            due.is("it had", x.erase(), size);
            due.is("it is empty", x.count(5), 0);
            due.is("the FAULT of an empty one", x.fault(), 0);
            due.is("nothing to erase", x.erase(), 0);
            due.is("written anew", x.write(0L, 8), 8);
        }
        SharedNights x = withBlanks(160);
        due.is("full", x.write(0L, 1), -5);
        x.erase();
        Glass.write(x, ONE);
        due.is("nothing of the older text is left", x.fault(), -1);
    }

    private static void faultNone() {
        due.sentence("Promise 11", "The place of the FAULT of THE TEXT as a PLAN; NONE.");
        SharedNights x = Glass.withTargets(1);
        due.is("place 0", x.fault(), 0);
        Glass.write(x, ONE);
        due.is("none", x.fault(), -1);
        due.is("none, asked again", x.fault(), -1);
        due.is("THE TEXT stays", x.count(5), ONE.length());
        due.is("no PLAN comes of it", x.count(3), 0);
        x.write('!', 1);
        due.is("a FAULT behind it", x.fault(), ONE.length());
        due.is("asked again", x.fault(), ONE.length());
        SharedNights y = withBlanks(159);
        y.write('!', 1);
        due.is("the greatest place of a TOKEN", y.fault(), 159);
        due.is("the greatest place of all", withBlanks(160).fault(), 160);
    }

    private static void standsZero() {
        due.sentence("Promise 12", "What CAN stand there; 0: there is no FAULT.");
        SharedNights x = Glass.withTargets(1);
        due.is("an empty TEXT", x.stands(), 1);
        Glass.write(x, ONE);
        due.is("no FAULT", x.stands(), 0);
        due.is("no FAULT, asked again", x.stands(), 0);
        due.is("THE TEXT stays", x.count(5), ONE.length());
        x.write(',', 1);
        due.is("more must come", x.stands(), 1);
        x.erase();
        due.is("empty anew", x.stands(), 1);
        due.is("full of blanks", withBlanks(160).stands(), 1);
    }

    private static void planEmptiesTheText() {
        due.sentence("Promise 13", "THE TEXT becomes a PLAN, and is empty then: its number.");
        SharedNights x = Glass.withTargets(1);
        Glass.write(x, THREE + " ".repeat(160 - THREE.length()));
        due.is("of 160 bytes", x.plan(), 0);
        due.is("THE TEXT is empty", x.count(5), 0);
        due.is("nothing more comes of it", x.plan(), -4);
        due.is("one PLAN", x.count(3), 1);
        due.is("another text", Glass.plan(x, ONE), 1);
        due.is("the first is as it was", x.told(0, 4), 3);
        due.is("the other has one STEP", x.told(1, 4), 1);
    }

    private static void planRefused() {
        due.sentence("Promise 13", "NOT: it has a FAULT; FULL.");
        SharedNights x = Glass.withTargets(1);
        for (int p = 0; p <= 5; p++) {
            due.is("an empty text with " + p, x.plan(), -4);
            Glass.write(x, ONE + ":");
            due.is("a FAULT at its end with " + p, x.plan(), -4);
            due.is("its bytes stay", x.count(5), ONE.length() + 1);
            x.erase();
            due.is("no FAULT with " + p, Glass.plan(x, ONE), p < 5 ? p : -5);
            due.is("its bytes", x.count(5), p < 5 ? 0 : ONE.length());
        }
        due.is("five PLANS", x.count(3), 5);
        due.is("FULL still", x.plan(), -5);
        due.is("drop the first", x.drop(0), 1);
        due.is("then there is room", x.plan(), 4);
    }

    private static SharedNights five() {
        SharedNights x = Glass.withTargets(1);
        for (int p = 0; p < 5; p++) {
            Glass.plan(x, ONE.replace("worth 5", "worth " + (10 + p)));
        }
        return x;
    }

    private static void drop() {
        due.sentence("Promise 14", "A PLAN is no more (those behind it get a number less): 1.");
        for (int gone = 0; gone < 5; gone++) {
            SharedNights x = five();
            due.is("drop " + gone, x.drop(gone), 1);
            due.is("four are left", x.count(3), 4);
            for (int p = 0; p < 4; p++) {
                due.is("WORTH of PLAN " + p + " then", x.told(p, 3), 10 + p + (p >= gone ? 1 : 0));
            }
            due.is("no PLAN 4", x.told(4, 3), -2);
            due.is("a PLAN more", Glass.plan(x, ONE), 4);
            due.is("it is behind all", x.told(4, 3), 5);
        }
        SharedNights x = five();
        for (int p = 0; p < 5; p++) {
            due.is("drop the first", x.drop(0), 1);
        }
        due.is("none is left", x.count(3), 0);
        due.is("numbered from 0 anew", Glass.plan(x, ONE), 0);
    }

    private static void dropRefused() {
        due.sentence("Promise 14", "1. UNKNOWN.");
        due.is("drop of no PLANS", Glass.withTargets(1).drop(0), -2);
        SharedNights x = five();
        for (int left = 5; left >= 1; left--) {
            for (int p : Glass.beyond(0, left - 1)) {
                due.is("drop " + p + " of " + left, x.drop(p), -2);
            }
            due.is("all stay", x.count(3), left);
            due.is("the last", x.drop(left - 1), 1);
        }
        due.is("none to drop", x.drop(0), -2);
    }

    private static void toldEachFact() {
        due.sentence("Promise 15", "Of a PLAN: 0 LAND, 1 INSTRUMENT, 2 TARGET, 3 WORTH, 4 how many STEPS; 10 j and: 10 K, 11 S, 12 R, "
                + "13 whether it is dark of STEP 0, 20 .. 23 of STEP 1, 30 .. 33 of STEP 2; 24, 25 A and B ahead of STEP 1, "
                + "34, 35 of STEP 2");
        SharedNights x = Glass.withTargets(8);
        due.is("the greatest numbers", Glass.plan(x, "land 3 with 2 at 7 worth 99:expose 4 seeing 3 air 8 dark,"
                + "wait 6 to 9,expose 4 seeing 3 air 8 dark,wait 6 to 9,expose 4 seeing 3 air 8 dark"), 0);
        due.is("the least numbers", Glass.plan(x, "land 0 with 0 at 0 worth 1:expose 1 seeing 0 air 0,"
                + "wait 0 to 0,expose 1 seeing 0 air 0,wait 0 to 0,expose 1 seeing 0 air 0"), 1);
        int[][] facts = {{0, 3, 0}, {1, 2, 0}, {2, 7, 0}, {3, 99, 1}, {4, 3, 3}, {10, 4, 1}, {11, 3, 0}, {12, 8, 0}, {13, 1, 0},
            {20, 4, 1}, {21, 3, 0}, {22, 8, 0}, {23, 1, 0}, {24, 6, 0}, {25, 9, 0}, {30, 4, 1}, {31, 3, 0}, {32, 8, 0},
            {33, 1, 0}, {34, 6, 0}, {35, 9, 0}};
        for (int[] fact : facts) {
            due.is("told 0 " + fact[0], x.told(0, fact[0]), fact[1]);
            due.is("told 1 " + fact[0], x.told(1, fact[0]), fact[2]);
        }
    }

    private static void toldNoSuchStep() {
        due.sentence("Promise 15", "(NONE for a STEP that it has not)");
        SharedNights x = Glass.withTargets(1);
        // Texts of more STEPS ahead of them: nothing of those is told.
        Glass.plan(x, THREE);
        x.drop(0);
        Glass.write(x, THREE);
        x.fault();
        x.erase();
        Glass.plan(x, ONE);
        Glass.plan(x, ONE + WAIT + STEP);
        for (int what : new int[] {20, 21, 22, 23, 24, 25}) {
            due.is("STEP 1 of one, " + what, x.told(0, what), -1);
            due.is("STEP 1 of two is there, " + what, x.told(1, what) >= 0 ? 1 : 0, 1);
        }
        for (int what : new int[] {30, 31, 32, 33, 34, 35}) {
            due.is("STEP 2 of one, " + what, x.told(0, what), -1);
            due.is("STEP 2 of two, " + what, x.told(1, what), -1);
        }
    }

    private static void toldRefused() {
        due.sentence("Promise 15", "UNKNOWN; OUTSIDE.");
        due.is("told of no PLANS", Glass.withTargets(1).told(0, 0), -2);
        SharedNights x = Glass.withTargets(1);
        Glass.plan(x, THREE);
        List<Integer> good = List.of(0, 1, 2, 3, 4, 10, 11, 12, 13, 20, 21, 22, 23, 24, 25, 30, 31, 32, 33, 34, 35);
        for (int what = -45; what <= 145; what++) {
            if (!good.contains(what)) {
                due.is("told 0 " + what, x.told(0, what), -3);
            }
            due.is("told 1 " + what, x.told(1, what), -2);
        }
        for (int what : new int[] {Integer.MIN_VALUE, Integer.MIN_VALUE + 10, Integer.MAX_VALUE}) {
            due.is("told 0 " + what, x.told(0, what), -3);
            due.is("told -1 " + what, x.told(-1, what), -2);
        }
        for (int p : Glass.beyond(0, 0)) {
            due.is("told " + p + " 0", x.told(p, 0), -2);
        }
    }

    private static void worth() {
        due.sentence("Promise 16", "WORTH of a PLAN: that which it was.");
        SharedNights x = five();
        due.is("the least", x.worth(0, 1), 10);
        due.is("the greatest", x.worth(0, 99), 1);
        due.is("the same", x.worth(0, 99), 99);
        due.is("of the last PLAN", x.worth(4, 1), 14);
        due.is("told then", x.told(4, 3), 1);
        due.is("another stays", x.told(3, 3), 13);
        due.is("in BEST NIGHT", x.best(0), 99 + 11 + 12 + 13 + 1);
    }

    private static void worthRefused() {
        due.sentence("Promise 16", "UNKNOWN; OUTSIDE.");
        due.is("WORTH of no PLANS", Glass.withTargets(1).worth(0, 5), -2);
        SharedNights x = five();
        for (int p : Glass.beyond(0, 4)) {
            due.is("PLAN " + p, x.worth(p, 1), -2);
            due.is("PLAN " + p + " and WORTH 0", x.worth(p, 0), -2);
        }
        for (int v : Glass.beyond(1, 99)) {
            due.is("WORTH " + v, x.worth(4, v), -3);
            due.is("it stays", x.told(4, 3), 14);
        }
    }
}
