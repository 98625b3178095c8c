/** What the tests by sentence share. A sentence is the document's own words; each has a test of its own. */
abstract class Sentences {
    static final int BAD = -1, NOT = -2, FULL = -3, NONE = -4, NULL = -11, CAST = -12, INDEX = -13, SIZE = -14;
    static final int LOW = Integer.MIN_VALUE, HIGH = Integer.MAX_VALUE;
    /** One of each kind and one fallen; the wave of night 0 comes up at inch 2, 6 high. */
    static final String SIX = "2+5^6;p3@2,l7@3,g4@8,d8@11,v2@7,p9";

    private static String sentence = "";
    private static int tested = 0;
    private static int broken = 0;
    private static int wrong = 0;

    interface Test {
        void run();
    }

    interface Make {
        BathRim make();
    }

    interface Step {
        int on(BathRim x);
    }

    interface Call {
        int by(int v);
    }

    static void says(String where, String words, Test test) {
        sentence = where + " \"" + words + "\"";
        int before = wrong;
        test.run();
        tested++;
        broken += wrong == before ? 0 : 1;
    }

    static void end() {
        System.out.println(broken == 0 ? "all " + tested + " sentences hold" : broken + " sentences are broken");
        if (broken != 0) {
            System.exit(1);
        }
    }

    static void due(String call, long got, long want) {
        if (got != want) {
            wrong++;
            System.out.println("broken: " + sentence + ": " + call + " answered " + got + ", due is " + want);
        }
    }

    static void same(String call, String got, String want) {
        if (!got.equals(want)) {
            wrong++;
            System.out.println("broken: " + sentence + ": " + call + " left\n  " + got + ", due is\n  " + want);
        }
    }

    /** BAD a step and a world outside of what is told, and not BAD at both ends of it. */
    static void bounds(String call, int least, int most, Call c) {
        for (int v : new int[] {LOW, least - 1, most + 1, HIGH}) {
            due(call + " by " + v, c.by(v), BAD);
        }
        for (int v : new int[] {least, most}) {
            due(call + " by " + v + " is BAD: 1", c.by(v) == BAD ? 1 : 0, 0);
        }
    }

    static void tell(BathRim x, String text) {
        for (int i = 0; i < text.length(); i++) {
            x.type(text.charAt(i));
        }
    }

    static BathRim told(String text) {
        BathRim x = new BathRim();
        tell(x, text);
        int men = x.rim();
        due("rim() of " + text + " is a fault: 1", men < 0 ? 1 : 0, 0);
        return x;
    }

    /** What rim() answers to a text on a new object's tape. */
    static int answerTo(String text) {
        BathRim x = new BathRim();
        tell(x, text);
        return x.rim();
    }

    static void row(BathRim x, int sheet, int lane, long... items) {
        x.sheet(sheet, lane, items.length);
        for (int i = 0; i < items.length; i++) {
            x.item(sheet, lane, i, items[i]);
        }
    }

    /** An item 0 .. 9, read by the paint that man, who is fallen, would keep; -1 for any other; or a refusal below -1. */
    static int itemBy(BathRim x, int man, int sheet, int lane, int i) {
        int set = x.worn(man, sheet, lane, i, 1, 1);
        if (set < 0) {
            return set;
        }
        return set == 0 ? -1 : Integer.numberOfTrailingZeros(set);
    }

    static void items(BathRim x, int man, int sheet, int lane, int... want) {
        for (int i = 0; i < want.length; i++) {
            due("item " + i + " of sheet " + sheet, itemBy(x, man, sheet, lane, i), want[i]);
        }
        due("an item more of sheet " + sheet, itemBy(x, man, sheet, lane, want.length), INDEX);
    }

    /** All that can be asked of the rim without changing it. */
    static String stateOf(BathRim x) {
        StringBuilder text = new StringBuilder();
        for (int what = 0; what <= 9; what++) {
            text.append(x.count(what)).append(' ');
        }
        int men = x.count(0);
        for (int m = 0; m < men; m++) {
            text.append(x.of(m, 0)).append(':').append(x.of(m, 1)).append('@').append(x.of(m, 2)).append(' ');
        }
        int draw = x.seed(0);
        x.seed(draw);
        return text.append(draw).toString();
    }

    /** All there is, sheets, the tape, the image and what may be undone too; the object is of no use then. */
    static String allOf(BathRim x) {
        StringBuilder text = new StringBuilder(stateOf(x));
        int left = x.undo();
        for (int k = 0; k < 8 && left >= 0; k++) {
            text.append("\n  undone, ").append(left).append(": ").append(stateOf(x));
            left = x.undo();
        }
        text.append("\n  tape ").append(x.type(' ')).append(", rim ").append(x.rim()).append(": ").append(stateOf(x));
        text.append("\n  restored ").append(x.restore()).append(": ").append(stateOf(x));
        tell(x, "0+0^0;p0");
        x.rim();
        for (int sheet = 0; sheet < 4; sheet++) {
            text.append("\n  sheet ").append(sheet).append(":");
            for (int lane = 0; lane < 4; lane++) {
                for (int i = 0; i < 25 && itemBy(x, 0, sheet, lane, i) >= -1; i++) {
                    text.append(' ').append(itemBy(x, 0, sheet, lane, i));
                }
                text.append(" / ").append(itemBy(x, 0, sheet, lane, HIGH));
            }
            text.append(", ").append(x.drop(sheet));
        }
        return text.toString();
    }

    /** A call that leaves all as it is on a twin that had no such call. */
    static void leavesAll(String call, Make make, Step step) {
        BathRim x = make.make();
        step.on(x);
        same(call, allOf(x), allOf(make.make()));
    }

    /** A call that is refused as due, and leaves all as it is. */
    static void refused(String call, int want, Make make, Step step) {
        due(call, step.on(make.make()), want);
        leavesAll(call, make, step);
    }

    /** Two have fallen; an image of another night; undos, letters, rows of bytes and longs, one of no items, one missing. */
    static BathRim rich() {
        BathRim x = told(SIX);
        x.nights(1);
        x.image();
        x.seed(4711);
        x.march(2, 0);
        x.drift(1);
        x.rule(0, 7);
        x.rule(1, 11);
        x.rule(2, 4);
        x.paint(0, 2);
        tell(x, "1+2^3;l4@5");
        row(x, 0, 0, 1, 2, 3);
        row(x, 1, 3, 4, 5);
        x.sheet(2, 2, 0);
        return x;
    }

    /** Room for men yet; men 0 and 2 stand, man 1 has fallen, man 2 has 9 paint; one step may be undone. */
    static BathRim few() {
        BathRim x = told("3+2^4;p5@3,l9,p8@11");
        x.paint(2, 1);
        return x;
    }

    /** A rim so many nights ahead of the last one, 9999. */
    static BathRim late(String text, int left) {
        BathRim x = told(text);
        for (int k = 0; k < 249; k++) {
            x.nights(40);
        }
        x.nights(39 - left);
        return x;
    }
}
