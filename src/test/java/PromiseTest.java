/** Promise by promise: ordinary inputs, the edges that the document names, wrong inputs. */
public final class PromiseTest {
    private static final int BAD = -1, NOT = -2, FULL = -3, NONE = -4, NULL = -11, CAST = -12, INDEX = -13, SIZE = -14;
    private static final int LOW = Integer.MIN_VALUE, HIGH = Integer.MAX_VALUE;
    /** One of each kind and one fallen; the wave of night 0 comes up at inch 2, 6 high. */
    private static final String SIX = "2+5^6;p3@2,l7@3,g4@8,d8@11,v2@7,p9";
    private static int wrong = 0;
    private static int promise = 0;

    public static void main(String[] args) {
        newObject();
        man();
        rule();
        of();
        at();
        wave();
        held();
        type();
        rim();
        rimFaults();
        count();
        nights();
        march();
        put();
        paint();
        drift();
        undo();
        seed();
        ahead();
        then();
        falls();
        alone();
        post();
        safe();
        change();
        coats();
        guard();
        calm();
        steam();
        image();
        restore();
        worn();
        film();
        sheet();
        drop();
        item();
        copy();
        System.out.println(wrong == 0 ? "all promises hold" : wrong + " answers are not as promised");
        if (wrong != 0) {
            System.exit(1);
        }
    }

    private static void due(String call, long got, long want) {
        if (got != want) {
            wrong++;
            System.out.println("promise " + promise + ": " + call + " answered " + got + ", due is " + want);
        }
    }

    private static void begin(int number) {
        promise = number;
    }

    private static void tell(BathRim x, String text) {
        for (int i = 0; i < text.length(); i++) {
            x.type(text.charAt(i));
        }
    }

    private static BathRim told(String text) {
        BathRim x = new BathRim();
        tell(x, text);
        int men = x.rim();
        if (men < 0) {
            due("rim() of " + text, men, 0);
        }
        return x;
    }

    private static int faultOf(String text) {
        BathRim x = new BathRim();
        tell(x, text);
        return x.rim();
    }

    /** All that can be asked of the state without changing it, but for sheets and the tape. */
    private static String stateOf(BathRim x) {
        StringBuilder text = new StringBuilder();
        for (int what = 0; what <= 9; what++) {
            text.append(x.count(what)).append(' ');
        }
        for (int m = 0; m < 6; m++) {
            for (int what = 0; what <= 4; what++) {
                text.append(x.of(m, what)).append(' ');
            }
        }
        int draw = x.seed(0);
        x.seed(draw);
        return text.append(draw).toString();
    }

    private static void same(String call, String got, String want) {
        if (!got.equals(want)) {
            wrong++;
            System.out.println("promise " + promise + ": " + call + " left " + got + ", due is " + want);
        }
    }

    private static void newObject() {
        begin(1);
        BathRim x = new BathRim();
        int[] counts = {0, 0, 0, 0, 0, 0, 0, 1, 5, 0};
        for (int what = 0; what < counts.length; what++) {
            due("count(" + what + ")", x.count(what), counts[what]);
        }
        due("of(0, 0)", x.of(0, 0), BAD);
        due("seed(5)", x.seed(5), 1);
        due("undo()", x.undo(), NONE);
        due("restore()", x.restore(), NONE);
        for (int s = 0; s < 4; s++) {
            due("drop", x.drop(s), NULL);
        }
        due("rim()", x.rim(), -20);
        due("type(48)", x.type(48), 1);
    }

    private static void man() {
        begin(2);
        BathRim x = new BathRim();
        for (int v : new int[] {-1, 5, LOW, HIGH}) {
            due("man kind", x.man(v, 0, 0), BAD);
        }
        for (int v : new int[] {-1, 10, LOW, HIGH}) {
            due("man paint", x.man(0, v, 0), BAD);
        }
        for (int v : new int[] {-1, 12, LOW, HIGH}) {
            due("man inch", x.man(0, 0, v), BAD);
        }
        due("count(0)", x.count(0), 0);
        due("man(0, 9, 0)", x.man(0, 9, 0), 0);
        due("man(4, 0, 11)", x.man(4, 0, 11), 1);
        due("man(3, 7, 11) where one stands", x.man(3, 7, 11), NOT);
        due("count(0)", x.count(0), 2);
        due("of(0, 1)", x.of(0, 1), 9);
        due("of(1, 0)", x.of(1, 0), 4);
        due("of(1, 2)", x.of(1, 2), 11);
        x.march(0, 1);
        due("a refused man", x.man(0, 0, 1), NOT);
        due("leaves what may be undone", x.count(9), 1);
        due("man(1, 5, 0)", x.man(1, 5, 0), 2);
        due("a new man leaves nothing to be undone", x.count(9), 0);
        due("undo()", x.undo(), NONE);
        due("man(2, 5, 2)", x.man(2, 5, 2), 3);
        due("man(3, 5, 3)", x.man(3, 5, 3), 4);
        due("man(4, 5, 4)", x.man(4, 5, 4), 5);
        due("a seventh", x.man(0, 0, 9), FULL);
        due("a seventh where one stands: FULL is named first", x.man(0, 0, 0), FULL);
        due("a seventh of no kind: BAD is named first", x.man(5, 0, 0), BAD);
        BathRim y = told("0+0^12;p0@0");
        y.nights(3);
        due("where a man fell", y.man(0, 0, 0), 1);
        due("the night stays", y.count(2), 3);
    }

    private static void rule() {
        begin(3);
        BathRim x = new BathRim();
        due("rule(0, 11)", x.rule(0, 11), 0);
        due("rule(0, 0)", x.rule(0, 0), 11);
        due("rule(1, 11)", x.rule(1, 11), 1);
        due("rule(1, 0)", x.rule(1, 0), 11);
        due("rule(2, 12)", x.rule(2, 12), 5);
        due("rule(2, 0)", x.rule(2, 0), 12);
        due("rule(2, 7)", x.rule(2, 7), 0);
        for (int v : new int[] {-1, 12, LOW, HIGH}) {
            due("rule(0, v)", x.rule(0, v), BAD);
            due("rule(1, v)", x.rule(1, v), BAD);
        }
        for (int v : new int[] {-1, 13, LOW, HIGH}) {
            due("rule(2, v)", x.rule(2, v), BAD);
        }
        for (int v : new int[] {-1, 3, LOW, HIGH}) {
            due("rule(what, 0)", x.rule(v, 0), BAD);
        }
        due("count(6)", x.count(6), 0);
        due("count(7)", x.count(7), 0);
        due("count(8)", x.count(8), 7);
        x.nights(2);
        x.rule(0, 3);
        due("a law told leaves what may be undone", x.count(9), 2);
    }

    private static void of() {
        begin(4);
        BathRim x = told(SIX);
        int[][] all = {
            {0, 3, 2, 5, 2}, // plain: 3 + 2; man 1 next to him
            {1, 7, 3, 4, 1}, // lame: half of 9, cut
            {2, 4, 8, 7, 16}, // general: 6, and 1 for man 4
            {3, 8, 11, 5, 0}, // drummer: half of 10, night 0
            {4, 2, 7, 6, 4}, // veteran: 4, and 1 for man 2, 1 for the fallen one
            {0, 9, NONE, 0, 0}};
        for (int m = 0; m < 6; m++) {
            for (int what = 0; what < 5; what++) {
                due("of(" + m + ", " + what + ")", x.of(m, what), all[m][what]);
            }
        }
        for (int v : new int[] {-1, 6, LOW, HIGH}) {
            due("of no man", x.of(v, 0), BAD);
        }
        for (int v : new int[] {-1, 5, LOW, HIGH}) {
            due("of no what", x.of(0, v), BAD);
        }
        x.rule(2, 0);
        x.nights(1);
        due("a drummer's grip in an odd night", x.of(3, 3), 8);
        x.nights(1);
        due("a drummer's grip in an even night", x.of(3, 3), 5);
        BathRim y = told("0+0^0;g0@5,p0@4,p0@6,v0@7,l0@11,l1");
        due("a general between two", y.of(0, 3), 4);
        due("who is next to him", y.of(0, 4), 6);
        due("a veteran by one, one fallen", y.of(3, 3), 4);
        due("lame without paint", y.of(4, 3), 1);
        BathRim z = told("0+0^0;g0@0,v0@11");
        due("the rim is not round", z.of(0, 3), 2);
        due("the rim is not round", z.of(1, 4), 0);
        BathRim w = told("0+0^0;g9@5,p0@7");
        due("two inches off is not next", w.of(0, 3), 11);
    }

    private static void at() {
        begin(5);
        BathRim x = told(SIX);
        due("at(2, 0)", x.at(2, 0), 0);
        due("at(11, 0)", x.at(11, 0), 3);
        due("at(0, 0)", x.at(0, 0), NONE);
        due("at(2, 1)", x.at(2, 1), 6);
        due("at(0, 1)", x.at(0, 1), 4);
        due("at(7, 1)", x.at(7, 1), 1);
        due("at(8, 1)", x.at(8, 1), 0);
        due("at(11, 1)", x.at(11, 1), 0);
        x.nights(1);
        due("at(2, 0) behind his fall", x.at(2, 0), NONE);
        due("at(7, 1) of night 1", x.at(7, 1), 6);
        x.nights(1);
        due("at(0, 1) of night 2, left over by 12", x.at(0, 1), 6);
        for (int v : new int[] {-1, 12, LOW, HIGH}) {
            due("at no inch", x.at(v, 0), BAD);
        }
        for (int v : new int[] {-1, 2, LOW, HIGH}) {
            due("at no what", x.at(0, v), BAD);
        }
    }

    private static void wave() {
        begin(6);
        BathRim x = told("11+3^5");
        due("wave(11, 0)", x.wave(11, 0), 5);
        due("wave(7, 0)", x.wave(7, 0), 1);
        due("wave(6, 0)", x.wave(6, 0), 0);
        due("it does not go round", x.wave(0, 0), 0);
        due("wave(2, 1)", x.wave(2, 1), 5);
        due("wave(5, 2)", x.wave(5, 2), 5);
        due("wave(11, 60)", x.wave(11, 60), 5);
        due("wave(2, 57)", x.wave(2, 57), 5);
        x.nights(1);
        due("from this night on", x.wave(2, 0), 5);
        due("wave(5, 1)", x.wave(5, 1), 5);
        due("wave(2, 60)", x.wave(2, 60), 5);
        for (int v : new int[] {-1, 12, LOW, HIGH}) {
            due("wave at no inch", x.wave(v, 0), BAD);
        }
        for (int v : new int[] {-1, 61, LOW, HIGH}) {
            due("wave of no n", x.wave(0, v), BAD);
        }
    }

    private static void held() {
        begin(7);
        BathRim x = told("0+0^0;p0@0,p0@11,p0");
        due("held(0)", x.held(0), 1 | 2048);
        due("held(1)", x.held(1), 3 | 3072);
        due("held(2)", x.held(2), 7 | 3584);
        due("held(5)", x.held(5), 4095);
        due("held(-1)", x.held(-1), BAD);
        due("held(6)", x.held(6), BAD);
        due("held(LOW)", x.held(LOW), BAD);
        due("held(HIGH)", x.held(HIGH), BAD);
        x.put(2, 6);
        due("held(0) by one put back", x.held(0), 1 | 64 | 2048);
        due("nobody holds", told("0+0^0;p0").held(5), 0);
    }

    private static void type() {
        begin(8);
        BathRim x = new BathRim();
        for (int v : new int[] {31, 127, -1, 256 + 48, 65536 + 48, LOW, HIGH}) {
            due("type of no letter", x.type(v), BAD);
        }
        due("type(32)", x.type(32), 1);
        due("type(126)", x.type(126), 2);
        for (int k = 3; k <= 60; k++) {
            due("type(48)", x.type(48), k);
        }
        due("a 61st", x.type(48), FULL);
        due("a 61st that is no letter", x.type(31), BAD);
        due("rim()", x.rim(), -21);
        due("type(48) on an empty tape", x.type(48), 1);
    }

    private static void rim() {
        begin(9);
        BathRim x = told("0+0^12;p1@5,l2@6");
        x.seed(77);
        x.nights(3);
        tell(x, " 11 + 7 ^ 9 ; v 9 @ 1 1 ");
        due("a blank ends a number", x.rim(), -20 - 22);
        due("all else stays", x.count(2), 3);
        tell(x, " 11 + 7 ^ 9 ; v 9 @ 11 , d0 ");
        due("rim()", x.rim(), 2);
        due("SOURCE", x.count(6), 11);
        due("STRIDE", x.count(7), 7);
        due("HEIGHT", x.count(8), 9);
        due("NIGHT 0", x.count(2), 0);
        due("nothing may be undone", x.count(9), 0);
        due("THE DRAW stays", x.seed(77), 77);
        due("kind", x.of(0, 0), 4);
        due("paint", x.of(0, 1), 9);
        due("inch", x.of(0, 2), 11);
        due("kind", x.of(1, 0), 3);
        due("fallen", x.of(1, 2), NONE);
        due("as many men as told", x.of(2, 0), BAD);
        tell(x, "0+00^01");
        due("rim() without men", x.rim(), 0);
        due("count(0)", x.count(0), 0);
        due("HEIGHT", x.count(8), 1);
        tell(x, "00+09^12;p0,l1,g2,d3,v4,p5@00");
        due("six men", x.rim(), 6);
        for (int m = 0; m < 6; m++) {
            due("kinds in their order", x.of(m, 0), m % 5);
            due("paint", x.of(m, 1), m);
        }
        due("the sixth's inch", x.of(5, 2), 0);
        due("STRIDE", x.count(7), 9);
        x.nights(2);
        x.image();
        tell(x, "0+0^13");
        due("a fault", x.rim(), -24);
        due("leaves what may be undone", x.count(9), 2);
        due("and the men", x.count(0), 6);
        due("and empties the tape", x.type(48), 1);
        x.sheet(0, 0, 3);
        tell(x, "+0^0");
        due("rim()", x.rim(), 0);
        due("the image stays", x.restore(), 1);
        due("the image stays", x.count(0), 6);
        due("sheets stay", x.drop(0), 3);
    }

    private static void rimFaults() {
        begin(9);
        Object[][] faults = {
            {"", -20}, {"   ", -23}, {"x", -20}, {"  x", -22}, {"+", -20}, {"-1", -20}, {"12", -20}, {" 12+", -21},
            {"99", -20}, {"0", -21}, {"0 ", -22}, {"01", -22}, {"011", -22}, {"000", -22}, {"0 0", -22}, {"1 +", -23},
            {"0^", -21}, {"0+", -22}, {"0+x", -22}, {"0+12", -22}, {"0+1 2", -24}, {"0+011", -24}, {"0+1+", -23},
            {"0+1^", -24}, {"0+1^13", -24}, {"0+1^13;p0", -24}, {"0+1^012", -26}, {"0+1^x", -24},
            {"0+1^5,", -25}, {"0+1^5 x", -26}, {"0+1^5;", -26}, {"0+1^5; ", -27}, {"0+1^5;;", -26}, {"0+1^5;P0", -26},
            {"0+1^5;5", -26}, {"0+1^5;p", -27}, {"0+1^5;pp", -27}, {"0+1^5;p@", -27}, {"0+1^5;p12", -28},
            {"0+1^5;p1,", -29}, {"0+1^5;p1, ", -30}, {"0+1^5;p1;", -28}, {"0+1^5;p1@", -29}, {"0+1^5;p1@x", -29},
            {"0+1^5;p1@12", -29}, {"0+1^5;p1@ 12", -30}, {"0+1^5;p1@1 1", -31}, {"0+1^5;p1@011", -31},
            {"0+1^5;p1@3@", -30}, {"0+1^5;p1@3,p1@3", -34}, {"0+1^5;p1@3,p1@ 03 ", -35}, {"0+1^5;p1@3,p1@4x", -35},
            {"0+1^5;p1@3,,", -31}, {"0+1^5;p1 p1", -29}, {"0+1^5;p0,p0,p0,p0,p0,p0,", -43},
            {"0+1^5;p0,p0,p0,p0,p0,p0,p0", -43}, {"0+1^5;p0,p0,p0,p0,p0,p0x", -43}, {"0+1^5;p0,p0,p0,p0,p0,p0@12", -44},
            {"0+1^5;p1@1,p1@11,p1@1", -40}, {"0+1^5;~", -26}};
        for (Object[] fault : faults) {
            due("rim() of \"" + fault[0] + "\"", faultOf((String) fault[0]), (Integer) fault[1]);
        }
        due("the greatest of all", faultOf("11+11^12"), 0);
        due("inches 1 and 11", faultOf("0+1^5;p1@1,p1@11"), 2);
        due("a fallen one bars no inch", faultOf("0+1^5;p1,p1@0,p1"), 3);
    }

    private static void count() {
        begin(10);
        BathRim x = told(SIX);
        int[] counts = {6, 5, 0, 31, 2444, 33, 2, 5, 6, 0};
        for (int what = 0; what < counts.length; what++) {
            due("count(" + what + ")", x.count(what), counts[what]);
        }
        x.nights(1);
        int[] behind = {6, 3, 1, 28, 2432, 32, 2, 5, 6, 1};
        for (int what = 0; what < behind.length; what++) {
            due("count(" + what + ")", x.count(what), behind[what]);
        }
        for (int v : new int[] {-1, 10, LOW, HIGH}) {
            due("count of no what", x.count(v), BAD);
        }
    }

    private static void nights() {
        begin(11);
        BathRim x = told("0+1^5;p0@0,p3@1,p2@2,p0@5,d3@3,g0@4");
        // night 0: high 5 4 3 0 2 1 where they stand; grips 2 5 4 2 2 4
        due("nights(1)", x.nights(1), 62);
        due("one who is not loose has 1 less", x.of(1, 1), 2);
        due("one who is not loose has 1 less", x.of(2, 1), 1);
        due("no wave there", x.of(3, 1), 0);
        due("grip as high as the wave stands", x.of(4, 1), 2);
        due("0 at least", x.of(5, 1), 0);
        due("who fell keeps his paint", x.of(0, 1), 0);
        // night 1: high by 5 at 1: men 1 2 3 4 5 see 5 4 1 3 2; grips 4 3 2 5 4
        due("nights(1)", x.nights(1), 56);
        due("count(9)", x.count(9), 2);
        for (int v : new int[] {-1, 0, 41, LOW, HIGH}) {
            due("no n", x.nights(v), BAD);
        }
        due("count(2)", x.count(2), 2);
        BathRim y = told("5+0^4;g1@5,g1@6");
        // both lean on each other: grips 4 and 4 by high 4 and 3; then 3 and 3: the first falls, the other not
        due("nights(1)", y.nights(1), 3);
        due("all falls by how all is ahead", y.nights(1), 2);
        due("alone he has 2", y.nights(1), 0);
        BathRim z = told("5+0^4;g0@5,g1@6");
        due("a falling neighbour still counts in that night", z.nights(1), 2);
        BathRim v = told("0+0^3;p0@0,v0@1,p0");
        due("one who falls counts for a veteran only later", v.nights(1), 2);
        due("a veteran's grip then", v.of(1, 3), 4);
        fullNights();
    }

    private static void fullNights() {
        BathRim x = told("0+1^0;p0@0");
        for (int k = 0; k < 249; k++) {
            x.nights(40);
        }
        due("above 9999", x.nights(40), FULL);
        due("above 9999 by a drift", x.drift(40), FULL);
        due("night", x.count(2), 9960);
        due("up to 9999", x.nights(39), 1);
        due("night", x.count(2), 9999);
        due("one more", x.nights(1), FULL);
        due("one more by a drift", x.drift(1), FULL);
        due("BAD is named first", x.nights(0), BAD);
        due("foretelling goes on", x.then(60), 1);
        x.rule(2, 12);
        due("wave(0, 9) of night 10008", x.wave(0, 9), 12);
        due("undo()", x.undo(), 7);
        due("a night again, by the new law", x.nights(1), 0);
    }

    private static void march() {
        begin(12);
        BathRim x = told("0+0^0;p0@0,p0@11,p0");
        due("march(0, 11) where one stands", x.march(0, 11), NOT);
        due("march(0, 0) where he is", x.march(0, 0), NOT);
        due("march of a fallen one", x.march(2, 5), NOT);
        due("march(0, 5)", x.march(0, 5), 0);
        due("march(1, 0)", x.march(1, 0), 11);
        due("of(0, 2)", x.of(0, 2), 5);
        due("count(9)", x.count(9), 2);
        due("no night passes", x.count(2), 0);
        for (int v : new int[] {-1, 3, LOW, HIGH}) {
            due("march of no man", x.march(v, 7), BAD);
        }
        for (int v : new int[] {-1, 12, LOW, HIGH}) {
            due("march to no inch", x.march(0, v), BAD);
            due("march of a fallen one to no inch", x.march(2, v), BAD);
        }
        due("refused ones are not undone", x.count(9), 2);
    }

    private static void put() {
        begin(13);
        BathRim x = told("0+0^0;p0@0,p0,p4");
        due("put of one who stands", x.put(0, 5), NOT);
        due("put where one stands", x.put(1, 0), NOT);
        due("put(2, 11)", x.put(2, 11), 2);
        due("put(1, 11)", x.put(1, 11), NOT);
        due("put(1, 10)", x.put(1, 10), 3);
        due("his paint stays", x.of(2, 1), 4);
        due("count(9)", x.count(9), 2);
        for (int v : new int[] {-1, 3, LOW, HIGH}) {
            due("put of no man", x.put(v, 7), BAD);
        }
        for (int v : new int[] {-1, 12, LOW, HIGH}) {
            due("put at no inch", x.put(0, v), BAD);
        }
    }

    private static void paint() {
        begin(14);
        BathRim x = told("0+0^0;p0@0,p7,p9@3");
        due("paint(0, 9)", x.paint(0, 9), 9);
        due("paint(1, 1) of a fallen one", x.paint(1, 1), 8);
        due("9 at most", x.paint(1, 9), 9);
        due("he has 9", x.paint(1, 1), NOT);
        due("he has 9", x.paint(2, 9), NOT);
        due("count(9)", x.count(9), 3);
        for (int v : new int[] {-1, 3, LOW, HIGH}) {
            due("paint of no man", x.paint(v, 1), BAD);
        }
        for (int v : new int[] {-1, 0, 10, LOW, HIGH}) {
            due("paint by no n", x.paint(0, v), BAD);
        }
    }

    private static void drift() {
        begin(15);
        BathRim x = told("0+0^0;p0@0");
        // 1 * 1103515245 + 12345 = 1103527590: by 128 it is 8621309, left over by 12: 5
        due("drift(1)", x.drift(1), 1);
        due("of(0, 2)", x.of(0, 2), 5);
        due("the draw", x.seed(1103527590), 1103527590);
        due("the night", x.count(2), 1);
        // the lowest 31 bits of 1103527590 * 1103515245 + 12345
        long second = (1103527590L * 1103515245L + 12345L) & 0x7fffffffL;
        due("drift(1)", x.drift(1), 1);
        due("of(0, 2)", x.of(0, 2), second / 128 % 12);
        due("the draw", x.seed(1), second);
        due("each night may be undone", x.count(9), 2);
        due("undo()", x.undo(), 1);
        due("the draw is as ahead of it", x.seed(5), 1103527590);
        due("of(0, 2)", x.of(0, 2), 5);
        due("undo()", x.undo(), 0);
        due("the draw is as ahead of it", x.seed(5), 1);
        due("of(0, 2)", x.of(0, 2), 0);
        BathRim y = told("0+0^0;p0@5,p0@1");
        // 1103527590 by 65536 is 16838, even: man 0, who is at inch 5 himself
        due("drift(1)", y.drift(1), 3);
        due("of(0, 2)", y.of(0, 2), 5);
        BathRim by = told("0+0^0;p0@0,p0@1,p0@2,p0@3,p0@4");
        // 16838 left over by 5 is 3
        due("drift(1)", by.drift(1), 31);
        due("of(3, 2)", by.of(3, 2), 5);
        BathRim z = told("0+0^0;p0@2,p0@5,p0@1");
        // 16838 left over by 3 is 2: to inch 5, where man 1 is
        due("drift(1)", z.drift(1), 7);
        due("somebody is there", z.of(2, 2), 1);
        BathRim f = told("0+0^0;p0,p0@1");
        due("a fallen one does not march", f.drift(1), 2);
        due("a fallen one does not march", f.of(0, 2), NONE);
        BathRim g = told("5+0^5;p0@0");
        due("the march is ahead of the wave", g.drift(1), 0);
        BathRim n = new BathRim();
        due("drift(2) without men", n.drift(2), 0);
        due("the draw goes on without men", n.seed(0), second);
        for (int v : new int[] {-1, 0, 41, LOW, HIGH}) {
            due("no n", n.drift(v), BAD);
        }
        due("drift(40)", n.drift(40), 0);
        due("8 are known", n.count(9), 8);
    }

    private static void undo() {
        begin(16);
        BathRim x = told("3+1^5;p5@3,g4@4,v3@9,l9");
        due("nothing is known", x.undo(), NONE);
        String[] states = new String[6];
        states[0] = stateOf(x);
        x.march(0, 7);
        states[1] = stateOf(x);
        x.put(3, 0);
        states[2] = stateOf(x);
        x.paint(1, 9);
        states[3] = stateOf(x);
        x.nights(1);
        states[4] = stateOf(x);
        x.drift(1);
        for (int k = 4; k >= 0; k--) {
            due("undo()", x.undo(), k);
            same("undo()", stateOf(x), states[k]);
        }
        due("undo()", x.undo(), NONE);
        undoLosesOlder();
        undoAndWhatWasTold();
    }

    private static void undoLosesOlder() {
        BathRim x = told("0+0^0;p0@0");
        for (int inch = 1; inch <= 11; inch++) {
            x.march(0, inch);
        }
        due("8 are known", x.count(9), 8);
        for (int k = 7; k >= 0; k--) {
            due("undo()", x.undo(), k);
            due("of(0, 2)", x.of(0, 2), k + 3);
        }
        due("older ones are lost", x.undo(), NONE);
        due("of(0, 2)", x.of(0, 2), 3);
        x.nights(40);
        due("each night by itself", x.undo(), 7);
        due("count(2)", x.count(2), 39);
    }

    private static void undoAndWhatWasTold() {
        BathRim x = told("0+0^0;p0@0");
        x.seed(9);
        x.march(0, 1);
        x.seed(10);
        x.rule(2, 7);
        due("undo()", x.undo(), 0);
        due("the draw is as ahead of it, whatever was told since", x.seed(0), 9);
        due("the law is not of it", x.count(8), 7);
        x.march(0, 2);
        tell(x, "0+0^0;p0@0");
        x.rim();
        due("a rim told leaves nothing", x.undo(), NONE);
    }

    private static void seed() {
        begin(17);
        BathRim x = new BathRim();
        due("seed(0)", x.seed(0), 1);
        due("seed(HIGH)", x.seed(HIGH), 0);
        due("seed(-1)", x.seed(-1), BAD);
        due("seed(LOW)", x.seed(LOW), BAD);
        due("seed(3)", x.seed(3), HIGH);
        due("no step that may be undone", x.count(9), 0);
        BathRim y = told("0+0^0;p0@3");
        y.seed(HIGH);
        y.drift(1);
        long draw = ((long) HIGH * 1103515245L + 12345L) & 0x7fffffffL;
        due("of(0, 2)", y.of(0, 2), draw / 128 % 12);
        due("seed(1)", y.seed(1), draw);
    }

    private static void ahead() {
        begin(18);
        BathRim x = told(SIX);
        String state = stateOf(x);
        due("ahead(0, 0, 0)", x.ahead(0, 0, 0), 2);
        due("ahead(0, 1, 0)", x.ahead(0, 1, 0), NONE);
        due("ahead(0, 60, 1)", x.ahead(0, 60, 1), 3);
        due("ahead(2, 4, 0)", x.ahead(2, 4, 0), 8);
        due("ahead(2, 4, 1)", x.ahead(2, 4, 1), 2);
        due("ahead(2, 9, 0)", x.ahead(2, 9, 0), NONE);
        due("ahead(4, 1, 1)", x.ahead(4, 1, 1), 1);
        due("ahead(5, 0, 0)", x.ahead(5, 0, 0), NONE);
        due("ahead(5, 60, 1)", x.ahead(5, 60, 1), 9);
        same("ahead", stateOf(x), state);
        for (int v : new int[] {-1, 6, LOW, HIGH}) {
            due("of no man", x.ahead(v, 0, 0), BAD);
        }
        for (int v : new int[] {-1, 61, LOW, HIGH}) {
            due("of no n", x.ahead(0, v, 0), BAD);
        }
        for (int v : new int[] {-1, 2, LOW, HIGH}) {
            due("of no what", x.ahead(0, 0, v), BAD);
        }
    }

    private static void then() {
        begin(19);
        BathRim x = told(SIX);
        String state = stateOf(x);
        due("then(0)", x.then(0), 31);
        due("then(1)", x.then(1), 28);
        due("then(4)", x.then(4), 28);
        due("then(9)", x.then(9), 16);
        due("then(60)", x.then(60), 16);
        same("then", stateOf(x), state);
        for (int v : new int[] {-1, 61, LOW, HIGH}) {
            due("of no n", x.then(v), BAD);
        }
    }

    private static void falls() {
        begin(20);
        BathRim x = told(SIX);
        String state = stateOf(x);
        int[] all = {1, 1, 7, 5, NONE, 0};
        for (int m = 0; m < 6; m++) {
            due("falls(" + m + ")", x.falls(m), all[m]);
        }
        same("falls", stateOf(x), state);
        for (int v : new int[] {-1, 6, LOW, HIGH}) {
            due("of no man", x.falls(v), BAD);
        }
        // 9 off his grip of 11 in 9 nights; the wave is 12 high at him in the first night already
        due("falls in the first", told("0+0^12;p9@0").falls(0), 1);
        due("11 high stands once", told("0+0^11;p9@0").falls(0), 2);
        due("3 high wears him down", told("0+0^3;p9@0").falls(0), 10);
        due("none", told("0+0^2;p9@0").falls(0), NONE);
        // touched in nights 0, 11, 12, 23, .. 48; in night 59 his grip of 1 is below 2
        due("the last that is foretold", told("1+1^2;l9@0").falls(0), 60);
    }

    private static void alone() {
        begin(21);
        BathRim x = told(SIX);
        String state = stateOf(x);
        due("alone()", x.alone(), 7);
        same("alone", stateOf(x), state);
        due("nobody", new BathRim().alone(), 0);
        due("one", told("0+0^0;p0@0,p0").alone(), 0);
        due("none", told("0+0^0;p0@0,p0@1").alone(), NONE);
        due("both at once", told("5+0^5;p0@5,p0@6").alone(), 1);
        due("one of two", told("0+0^3;p9@0,p9@11").alone(), 10);
        due("the last that is foretold", told("1+1^2;l9@0,p0@11").alone(), 60);
    }

    private static void post() {
        begin(22);
        BathRim x = told("5+0^6;p0@5");
        String state = stateOf(x);
        // 2 grips hold where the wave is 2 high at most: 4 inches off at least
        due("post(0, 1, 0)", x.post(0, 1, 0), 0);
        due("post(0, 1, 1)", x.post(0, 1, 1), 1);
        x.rule(0, 0);
        due("the first of like ones", x.post(0, 40, 0), 4);
        due("post(0, 40, 1)", x.post(0, 40, 1), 1);
        x.rule(0, 5);
        same("post", stateOf(x), state);
        BathRim g = told("0+0^4;g0@4,p0@0,p0@2,p0");
        // man 1 falls however; man 3 with his 2 would fall at inch 1, where the wave is 3 high
        due("post of a fallen one", g.post(3, 1, 0), 3);
        due("post of a fallen one", g.post(3, 1, 1), 3);
        // with 2 and 1 for man 1 beside him: inch 8 is too high by 4, 10 is 2 high
        due("a general", told("0+0^12;p9@5,p9@9,g0@0").post(2, 1, 0), 10);
        BathRim own = told("11+0^5;p0@0,p0@1");
        due("his own inch counts", own.post(0, 1, 0), 0);
        due("another's does not", own.post(1, 1, 0), 1);
        BathRim h = told("0+0^5;p0@8,g3@3");
        // wherever man 0 is from 3 on both stand (man 1 has 5 by 2)
        due("post(0, 1, 0)", h.post(0, 1, 0), 4);
        due("post(0, 1, 1)", h.post(0, 1, 1), 2);
        due("VETERANS count him who was put back no more", told("0+0^3;v0@0,p0").post(1, 1, 1), 2);
        for (int v : new int[] {-1, 1, LOW, HIGH}) {
            due("of no man", x.post(v, 1, 0), BAD);
        }
        for (int v : new int[] {-1, 0, 41, LOW, HIGH}) {
            due("of no n", x.post(0, v, 0), BAD);
        }
        for (int v : new int[] {-1, 2, LOW, HIGH}) {
            due("of no what", x.post(0, 1, v), BAD);
        }
    }

    private static void safe() {
        begin(23);
        BathRim x = told("5+0^6;p0@5,l0@0,p0");
        String state = stateOf(x);
        // 4 inches off at least, and not where man 1 is: 1, 9, 10, 11
        due("safe(0, 1)", x.safe(0, 1), 2 | 512 | 1024 | 2048);
        due("safe(0, 40)", x.safe(0, 40), 2 | 512 | 1024 | 2048);
        due("safe of a fallen one", x.safe(2, 1), 2 | 512 | 1024 | 2048);
        due("his own counts", x.safe(1, 1), 1 | 1024 | 2048);
        same("safe", stateOf(x), state);
        due("nowhere", told("0+1^12;p0@0").safe(0, 40), 0);
        due("everywhere but one", told("0+1^0;p0@0,p0@7").safe(0, 40), 4095 - 128);
        for (int v : new int[] {-1, 3, LOW, HIGH}) {
            due("of no man", x.safe(v, 1), BAD);
        }
        for (int v : new int[] {-1, 0, 41, LOW, HIGH}) {
            due("of no n", x.safe(0, v), BAD);
        }
    }

    private static void change() {
        begin(24);
        BathRim x = told("0+0^5;p0@0,p0@11,p9@10,p0");
        String state = stateOf(x);
        due("change(1, 0)", x.change(1, 0), 2);
        due("change(1, 1)", x.change(1, 1), 3);
        due("behind 40 nights man 0 or 2 has fallen", x.change(40, 1), 2);
        due("the first of like ones", x.change(40, 0), 1);
        same("change", stateOf(x), state);
        due("they must change", told("0+0^5;p9@0,p0@11").change(1, 1), 1);
        due("they must change", told("0+0^5;p9@0,p0@11").change(1, 0), 1);
        due("told as 10 i and j", told("0+0^5;p0,p0@0,p0,p0,p0,p9@11").change(1, 0), 15);
        due("none", told("0+0^5;p9@0,p0").change(1, 0), NONE);
        due("none", told("0+0^5;p9@0,p0").change(40, 1), NONE);
        BathRim none = new BathRim();
        due("none", none.change(1, 1), NONE);
        for (int v : new int[] {-1, 0, 41, LOW, HIGH}) {
            due("of no n", none.change(v, 0), BAD);
        }
        for (int v : new int[] {-1, 2, LOW, HIGH}) {
            due("of no what", none.change(1, v), BAD);
        }
    }

    private static void coats() {
        begin(25);
        BathRim x = told(SIX);
        String state = stateOf(x);
        int[] once = {25, 5, 1, 1, 0, 0, 2, 0, NONE};
        int[] fiveNights = {14, 4, 0, 2, 1, 1, 0, 0, NONE};
        for (int i = -2; i <= 6; i++) {
            due("coats(4, 1, " + i + ")", x.coats(4, 1, i), once[i + 2]);
            due("coats(4, 5, " + i + ")", x.coats(4, 5, i), fiveNights[i + 2]);
        }
        due("coats(4, 1, HIGH)", x.coats(4, 1, HIGH), NONE);
        same("coats", stateOf(x), state);
        BathRim y = told("0+0^5;p3@0,p8@11,p0");
        due("what is above is lost", y.coats(8, 1, -2), 2 + 8 + 1 + 7 - 1);
        due("coats(8, 1, 0)", y.coats(8, 1, 0), 6);
        due("coats(8, 1, 1)", y.coats(8, 1, 1), 1);
        due("coats(8, 1, 2)", y.coats(8, 1, 2), 1);
        due("no coats", y.coats(0, 1, -2), 10);
        due("no coats", y.coats(0, 1, 0), 0);
        y.paint(0, 1);
        due("asked again behind a change", y.coats(0, 1, -2), 11);
        y.undo();
        due("asked again behind another", y.coats(0, 1, -2), 10);
        y.rule(2, 0);
        due("asked again by another law", y.coats(0, 1, -2), 11);
        // 8 coats give him the grip of 10 that the wave asks for: the last parting of all
        BathRim last = told("0+0^10;p0@0,p0,p0,p0,p0,p0");
        due("all to the first", last.coats(8, 1, -1), 1);
        due("all to the first", last.coats(8, 1, -2), 7);
        due("all to the first", last.coats(8, 1, 0), 8);
        due("7 do not do", last.coats(7, 1, -1), 0);
        coatsAnew();
        BathRim fallen = told("0+0^5;p3,p8");
        due("none stands", fallen.coats(3, 1, -1), 0);
        due("none stands", fallen.coats(3, 1, -2), 0);
        due("the first", fallen.coats(3, 1, 0), 0);
        due("the first", fallen.coats(3, 1, 1), 3);
        BathRim none = new BathRim();
        for (int i = -2; i <= 1; i++) {
            due("there are none", none.coats(8, 30, i), NONE);
        }
        for (BathRim z : new BathRim[] {x, none}) {
            for (int v : new int[] {-1, 9, LOW, HIGH}) {
                due("of no k", z.coats(v, 1, 0), BAD);
            }
            for (int v : new int[] {-1, 0, 31, LOW, HIGH}) {
                due("of no n", z.coats(0, v, 0), BAD);
            }
            due("of no i", z.coats(0, 1, -3), BAD);
            due("of no i", z.coats(0, 1, LOW), BAD);
        }
    }

    /** What was asked before must not be answered again once anything is another. */
    private static void coatsAnew() {
        String[] rims = {"0+1^5;l4@5,p3@2", "1+1^5;l4@5,p3@2", "0+2^5;l4@5,p3@2", "0+1^6;l4@5,p3@2", "0+1^5;p4@5,p3@2",
            "0+1^5;l5@5,p3@2", "0+1^5;l4@6,p3@2", "0+1^5;l4@5,g3@2", "0+1^5;l4@5,p3@2,p0@11", "0+1^5;l4@5"};
        for (int first = 0; first < rims.length; first++) {
            for (int n = 1; n <= 30; n += 7) {
                for (int other = first + 1; other < rims.length; other++) {
                    askCoatsOfBoth(rims[first], rims[other], n);
                }
            }
        }
        BathRim x = told("0+1^5;l4@5,p3@2");
        int first = x.coats(3, 2, -2);
        due("by fewer coats", x.coats(2, 2, -2), told("0+1^5;l4@5,p3@2").coats(2, 2, -2));
        due("by more nights", x.coats(3, 3, -2), told("0+1^5;l4@5,p3@2").coats(3, 3, -2));
        due("by as many", x.coats(3, 2, -2), first);
        BathRim later = told("0+1^5;p9@11");
        due("in night 0", later.coats(0, 1, -2), 9);
        later.rule(2, 0);
        later.nights(11);
        later.rule(2, 5);
        due("in night 11", later.coats(0, 1, -2), 8);
        later.undo();
        later.undo();
        due("in night 9", later.coats(0, 1, -2), 8);
    }

    private static void askCoatsOfBoth(String one, String other, int n) {
        BathRim x = told(one);
        x.coats(3, n, 0);
        tell(x, other);
        x.rim();
        BathRim fresh = told(other);
        for (int i = -2; i < 3; i++) {
            due("coats(3, " + n + ", " + i + ") of " + other + " behind " + one, x.coats(3, n, i), fresh.coats(3, n, i));
        }
    }

    private static void guard() {
        begin(26);
        BathRim x = told("0+0^0;p0@3,p0@5,p0@7,p0@4,p0@6,p0");
        // by 1: 2 .. 8 is held; 3 and 7 with one of 5, 4, 6 would hold all: men 0, 1, 2
        due("guard(1, 0)", x.guard(1, 0), 3);
        due("guard(1, 1)", x.guard(1, 1), 7);
        due("guard(0, 0)", x.guard(0, 0), 5);
        due("guard(0, 1)", x.guard(0, 1), 31);
        // by 2: 1 .. 9 is held by 3 and 7
        due("guard(2, 0)", x.guard(2, 0), 2);
        due("guard(2, 1)", x.guard(2, 1), 5);
        due("one for all", told("0+0^0;p0@5,p0@6").guard(5, 0), 2);
        due("the least set", told("0+0^0;p0@0,p0@11,p0@6,p0@5").guard(5, 1), 3);
        due("nobody", told("0+0^0;p0").guard(3, 0), 0);
        due("nobody", told("0+0^0;p0").guard(3, 1), 0);
        for (int v : new int[] {-1, 6, LOW, HIGH}) {
            due("by no r", x.guard(v, 0), BAD);
        }
        for (int v : new int[] {-1, 2, LOW, HIGH}) {
            due("of no what", x.guard(0, v), BAD);
        }
    }

    private static void calm() {
        begin(27);
        BathRim x = told("0+0^5;p3@0,l9@11,p0");
        String state = stateOf(x);
        due("calm(1)", x.calm(1), 5);
        due("calm(2)", x.calm(2), 4);
        due("calm(40)", x.calm(40), 2);
        same("calm", stateOf(x), state);
        due("nobody", told("0+0^5;p0").calm(40), 12);
        due("all stand 12", told("0+0^5;p0@10").calm(40), 12);
        due("none but 0", told("0+1^5;l0@0,l0@11,l0@5").calm(40), 1);
        for (int v : new int[] {-1, 0, 41, LOW, HIGH}) {
            due("of no n", x.calm(v), BAD);
        }
    }

    private static void steam() {
        begin(28);
        BathRim x = told("0+0^5;p9@0,p9@11");
        String state = stateOf(x);
        fraction(x, 2, 3, 7, 10);
        fraction(x, 1, 3, 1, 1);
        fraction(x, 0, 10, 1, 1);
        fraction(x, 2, 5, 1, 2);
        fraction(x, 2, 0, 1, 1);
        fraction(x, 2, 10, 0, 1);
        fraction(x, 3, 0, 0, 1);
        same("steam", stateOf(x), state);
        BathRim y = told("5+0^5;p9@5,p9@6");
        fraction(y, 1, 5, 3, 4);
        fraction(y, 2, 3, 49, 100);
        fraction(y, 1, 3, 91, 100);
        fraction(y, 1, 1, 99, 100);
        BathRim z = told("5+0^9;p9@5,p0@6,p9@7,p9@3,p9@4,p9");
        // man 1 falls however, four are shaky
        fraction(z, 4, 1, 6561, 10000);
        fraction(z, 1, 9, 3439, 10000);
        fraction(z, 5, 0, 0, 1);
        BathRim six = told("5+0^9;p9@5,p9@6,p9@7,p9@3,p9@4,p9@8");
        fraction(six, 6, 1, 531441, 1000000);
        fraction(six, 6, 9, 1, 1000000);
        fraction(six, 0, 3, 1, 1);
        BathRim g = told("5+0^4;g0@5,p9@4,p9@6");
        // one without a grip still stands next to the general in this night
        fraction(g, 3, 5, 1, 8);
        fraction(g, 2, 5, 1, 2);
        BathRim later = told("5+5^5;p9@5,p9@6");
        later.nights(1);
        // the wave is at 10 in night 1: 0 high at 5, 1 at 6
        fraction(later, 2, 4, 3, 5);
        fraction(later, 1, 4, 1, 1);
        BathRim none = new BathRim();
        fraction(none, 0, 3, 1, 1);
        fraction(none, 1, 3, 0, 1);
        for (int v : new int[] {-1, 7, LOW, HIGH}) {
            due("of no m", x.steam(v, 0, 0), BAD);
        }
        for (int v : new int[] {-1, 11, LOW, HIGH}) {
            due("by no c", x.steam(0, v, 0), BAD);
        }
        for (int v : new int[] {-1, 2, LOW, HIGH}) {
            due("of no what", x.steam(0, 0, v), BAD);
        }
    }

    private static void fraction(BathRim x, int m, int c, int above, int below) {
        due("steam(" + m + ", " + c + ", 0)", x.steam(m, c, 0), above);
        due("steam(" + m + ", " + c + ", 1)", x.steam(m, c, 1), below);
    }

    private static void image() {
        begin(29);
        BathRim x = told(SIX);
        x.nights(2);
        x.drift(1);
        String state = stateOf(x);
        due("image()", x.image(), 1);
        same("image", stateOf(x), state);
        x.nights(1);
        String later = stateOf(x);
        due("image()", x.image(), 1);
        x.nights(3);
        x.restore();
        same("the newer image", stateOf(x), later);
        due("an image of nobody", new BathRim().image(), 1);
    }

    private static void restore() {
        begin(30);
        BathRim x = new BathRim();
        due("none", x.restore(), NONE);
        tell(x, SIX);
        x.rim();
        x.nights(1);
        x.march(2, 0);
        x.seed(4711);
        String state = stateOf(x);
        x.image();
        x.type('1');
        x.sheet(2, 1, 7);
        x.drift(9);
        x.rule(0, 9);
        x.rule(1, 9);
        x.rule(2, 9);
        x.seed(3);
        due("restore()", x.restore(), 1);
        same("restore", stateOf(x), state);
        due("the tape is not of it", x.type('2'), 2);
        due("nor are sheets", x.drop(2), 7);
        due("what may be undone is", x.undo(), 1);
        due("what may be undone is", x.of(2, 2), 8);
        due("what may be undone is", x.undo(), 0);
        due("what may be undone is", x.count(3), 31);
        x.nights(5);
        due("restore() again", x.restore(), 1);
        same("restore again", stateOf(x), state);
        x.rim();
        tell(x, "0+0^0;p0@0");
        x.rim();
        due("restore() behind a rim", x.restore(), 1);
        same("restore behind a rim", stateOf(x), state);
        due("undo() behind that", x.undo(), 1);
        due("of(2, 2)", x.of(2, 2), 8);
    }

    private static void row(BathRim x, int sheet, int lane, long... items) {
        x.sheet(sheet, lane, items.length);
        for (int i = 0; i < items.length; i++) {
            x.item(sheet, lane, i, items[i]);
        }
    }

    private static void worn() {
        begin(31);
        BathRim x = told("0+0^5;p9@0,p4");
        String state = stateOf(x);
        row(x, 0, 2, 0, 8, 7, 6, 5, 4);
        // plain has grips 11 .. 7, veteran as many and 1; lame 5 5 4: falls in the third; drummer 5 8 4: likewise
        due("kinds", x.worn(0, 0, 2, 1, 5, 0), 1 | 4 | 16);
        due("kinds by the first two", x.worn(0, 0, 2, 1, 2, 0), 31);
        due("paint", x.worn(0, 0, 2, 1, 5, 1), 512);
        due("paint by the first", x.worn(0, 0, 2, 1, 1, 1), 512);
        due("heights", x.worn(0, 0, 2, 1, 5, 2), 254);
        due("heights by the first", x.worn(0, 0, 2, 1, 1, 2), 4094);
        same("worn", stateOf(x), state);
        row(x, 1, 0, 4, 4, 4, 4, 4, 4, 4, 4);
        due("a fallen one keeps his paint, whatever his kind", x.worn(1, 1, 0, 0, 8, 0), 31);
        due("a fallen one's paint", x.worn(1, 1, 0, 0, 8, 1), 16);
        due("a fallen one tells nothing of heights", x.worn(1, 1, 0, 0, 8, 2), 8191);
        row(x, 2, 3, 8 + (1L << 32), 8);
        due("longs are whole", x.worn(0, 2, 3, 0, 1, 1), 0);
        due("longs are whole", x.worn(0, 2, 3, 1, 1, 1), 512);
        row(x, 2, 1, 65536 + 8, -1);
        due("shorts are cut", x.worn(0, 2, 1, 0, 1, 1), 512);
        due("-1 is no paint", x.worn(0, 2, 1, 1, 1, 1), 0);
        due("-1 is of no kind", x.worn(0, 2, 1, 1, 1, 0), 0);
        due("-1 is of no height", x.worn(0, 2, 1, 1, 1, 2), 0);
        BathRim z = told("0+0^3;p5@0");
        row(z, 0, 0, 0, 0);
        // 0 stays: he falls without paint (grip 2), or loses his last (grip 3)
        due("paint 0 or 1", z.worn(0, 0, 0, 0, 1, 1), 3);
        due("paint 0 or 1, twice", z.worn(0, 0, 0, 0, 2, 1), 3);
        refusedWorn(x);
    }

    private static void refusedWorn(BathRim x) {
        for (int v : new int[] {-1, 2, LOW, HIGH}) {
            due("of no man", x.worn(v, 0, 2, 1, 1, 0), BAD);
        }
        for (int v : new int[] {-1, 4, LOW, HIGH}) {
            due("of no sheet", x.worn(0, v, 2, 1, 1, 0), BAD);
            due("of no lane", x.worn(0, 0, v, 1, 1, 0), BAD);
        }
        for (int v : new int[] {-1, 0, 9, LOW, HIGH}) {
            due("of no n", x.worn(0, 0, 2, 0, v, 0), BAD);
        }
        for (int v : new int[] {-1, 3, LOW, HIGH}) {
            due("of no what", x.worn(0, 0, 2, 0, 1, v), BAD);
        }
        due("missing", x.worn(0, 3, 2, -1, 1, 0), NULL);
        due("BAD is ahead of NULL", x.worn(0, 3, 2, -1, 9, 0), BAD);
        due("another lane", x.worn(0, 0, 1, -1, 1, 0), CAST);
        for (int v : new int[] {-1, 6, LOW, HIGH, HIGH - 3}) {
            due("no such item", x.worn(0, 0, 2, v, 1, 0), INDEX);
        }
        due("the last item", x.worn(0, 0, 2, 5, 1, 1), 32);
        due("beyond the last", x.worn(0, 0, 2, 5, 2, 1), INDEX);
    }

    private static void film() {
        begin(32);
        BathRim x = told("0+0^5;p9@0,p4");
        String state = stateOf(x);
        x.sheet(0, 0, 24);
        due("film(0, 24, 0, 0, 0)", x.film(0, 24, 0, 0, 0), 24);
        same("film", stateOf(x), state);
        // grip 11 .. 5 by 5: paint 9 .. 3 stands, 2 behind the seventh night, then he falls
        int[] paints = {8, 7, 6, 5, 4, 3, 2, 2, 2};
        for (int i = 0; i < paints.length; i++) {
            due("item " + i, itemOf(x, 0, 0, i), paints[i]);
        }
        due("item 23", itemOf(x, 0, 0, 23), 2);
        x.sheet(1, 3, 5);
        due("film from item 2 on", x.film(0, 3, 1, 3, 2), 3);
        int[] row = {0, 0, 8, 7, 6};
        for (int i = 0; i < row.length; i++) {
            due("item " + i, itemOf(x, 1, 3, i), row[i]);
        }
        due("film of a fallen one", x.film(1, 1, 1, 3, 0), 1);
        due("item 0", itemOf(x, 1, 3, 0), 4);
        due("beyond the last", x.film(1, 3, 1, 3, 3), INDEX);
        due("what is refused changes nothing", itemOf(x, 1, 3, 3), 7);
        for (int v : new int[] {-1, 2, LOW, HIGH}) {
            due("of no man", x.film(v, 1, 1, 3, 0), BAD);
        }
        for (int v : new int[] {-1, 0, 25, LOW, HIGH}) {
            due("of no n", x.film(0, v, 1, 3, 0), BAD);
        }
        for (int v : new int[] {-1, 4, LOW, HIGH}) {
            due("of no sheet", x.film(0, 1, v, 3, 0), BAD);
            due("of no lane", x.film(0, 1, 1, v, 0), BAD);
        }
        due("missing", x.film(0, 1, 2, 3, -1), NULL);
        due("another lane", x.film(0, 1, 1, 2, -1), CAST);
        for (int v : new int[] {-1, 5, LOW, HIGH}) {
            due("no such item", x.film(0, 1, 1, 3, v), INDEX);
        }
    }

    /** An item's value, read by the paint of a fallen man that it could tell: 0 .. 9, or -1. */
    private static int itemOf(BathRim x, int sheet, int lane, int i) {
        int fallen = -1;
        for (int m = 0; m < x.count(0); m++) {
            fallen = x.of(m, 2) == NONE ? m : fallen;
        }
        int set = x.worn(fallen, sheet, lane, i, 1, 1);
        return set <= 0 ? -1 : Integer.numberOfTrailingZeros(set);
    }

    private static void sheet() {
        begin(33);
        BathRim x = told("0+0^0;p0");
        for (int lane = 0; lane < 4; lane++) {
            due("sheet of 0 items", x.sheet(lane, lane, 0), 0);
            due("sheet of 24 items", x.sheet(lane, lane, 24), 24);
        }
        due("a new row is of zeros", itemOf(x, 3, 3, 23), 0);
        x.item(3, 3, 0, 5);
        due("anew", x.sheet(3, 3, 2), 2);
        due("anew it is of zeros", itemOf(x, 3, 3, 0), 0);
        due("of another lane", x.sheet(3, 1, 3), 3);
        due("of another lane", x.item(3, 3, 0, 1), CAST);
        for (int v : new int[] {-1, 4, LOW, HIGH}) {
            due("no sheet", x.sheet(v, 0, 1), BAD);
            due("no lane", x.sheet(0, v, 1), BAD);
            due("no sheet is ahead of SIZE", x.sheet(v, 0, -1), BAD);
        }
        due("above 24", x.sheet(0, 0, 25), BAD);
        due("above 24", x.sheet(0, 0, HIGH), BAD);
        due("below 0", x.sheet(0, 0, -1), SIZE);
        due("below 0", x.sheet(0, 0, LOW), SIZE);
        due("what is refused changes nothing", x.drop(0), 24);
        due("SIZE on nothing", x.sheet(0, 0, -1), SIZE);
        due("it stays nothing", x.drop(0), NULL);
    }

    private static void drop() {
        begin(34);
        BathRim x = new BathRim();
        due("nothing", x.drop(1), NULL);
        x.sheet(1, 2, 9);
        x.sheet(2, 2, 0);
        due("drop(1)", x.drop(1), 9);
        due("drop(1) again", x.drop(1), NULL);
        due("drop(2)", x.drop(2), 0);
        due("items of nothing", x.item(1, 2, 0, 1), NULL);
        for (int v : new int[] {-1, 4, LOW, HIGH}) {
            due("no sheet", x.drop(v), BAD);
        }
    }

    private static void item() {
        begin(35);
        BathRim x = told("0+0^0;p0");
        long[] cut = {(1L << 8) + 5, (1L << 16) + 5, (1L << 32) + 5, 5};
        for (int lane = 0; lane < 4; lane++) {
            x.sheet(lane, lane, 3);
            due("item", x.item(lane, lane, 2, cut[lane]), 1);
            due("its lowest bits", itemOf(x, lane, lane, 2), 5);
            due("others stay", itemOf(x, lane, lane, 1), 0);
            due("one bit more", x.item(lane, lane, 0, 1L << 63 | 5), 1);
            due("one bit more", itemOf(x, lane, lane, 0), lane == 3 ? -1 : 5);
        }
        long[] wide = {5 + 128, 5 + 32768, 5 + (1L << 31), 5 + (1L << 62)};
        for (int lane = 0; lane < 4; lane++) {
            x.item(lane, lane, 0, wide[lane]);
            due("the highest bit counts", itemOf(x, lane, lane, 0), -1);
        }
        for (int v : new int[] {-1, 4, LOW, HIGH}) {
            due("no sheet", x.item(v, 0, 0, 0), BAD);
            due("no lane", x.item(0, v, 0, 0), BAD);
        }
        x.drop(1);
        due("missing", x.item(1, 3, -1, 0), NULL);
        due("another lane", x.item(0, 3, -1, 0), CAST);
        for (int v : new int[] {-1, 3, LOW, HIGH}) {
            due("no such item", x.item(0, 0, v, 0), INDEX);
        }
        x.sheet(1, 1, 0);
        due("of no items", x.item(1, 1, 0, 0), INDEX);
    }

    private static void items(BathRim x, int sheet, int lane, int... want) {
        for (int i = 0; i < want.length; i++) {
            due("item " + i + " of sheet " + sheet, itemOf(x, sheet, lane, i), want[i]);
        }
    }

    private static void copy() {
        begin(36);
        BathRim x = told("0+0^0;p0");
        row(x, 0, 2, 1, 2, 3, 4, 5);
        row(x, 1, 2, 9, 9, 9);
        due("copy to another", x.copy(0, 3, 1, 1, 2), 2);
        items(x, 1, 2, 9, 4, 5);
        items(x, 0, 2, 1, 2, 3, 4, 5);
        due("copy to the same, up", x.copy(0, 0, 0, 1, 4), 4);
        items(x, 0, 2, 1, 1, 2, 3, 4);
        row(x, 0, 2, 1, 2, 3, 4, 5);
        due("copy to the same, down", x.copy(0, 1, 0, 0, 4), 4);
        items(x, 0, 2, 2, 3, 4, 5, 5);
        due("no items", x.copy(0, 5, 1, 3, 0), 0);
        due("no items behind the end", x.copy(0, 6, 1, 3, 0), INDEX);
        due("no items behind the end", x.copy(0, 5, 1, 4, 0), INDEX);
        due("too many of the one", x.copy(0, 2, 0, 0, 4), INDEX);
        due("too many for the other", x.copy(0, 0, 1, 1, 3), INDEX);
        items(x, 1, 2, 9, 4, 5);
        for (int v : new int[] {-1, LOW, HIGH}) {
            due("from no item", x.copy(0, v, 1, 0, 1), INDEX);
            due("to no item", x.copy(0, 0, 1, v, 1), INDEX);
            due("of no such number", x.copy(0, 0, 1, 0, v), INDEX);
        }
        due("far", x.copy(0, HIGH, 1, 0, HIGH), INDEX);
        row(x, 2, 3, 1);
        due("unlike lanes", x.copy(0, 0, 2, 0, 1), CAST);
        due("unlike lanes are ahead of INDEX", x.copy(0, -1, 2, 0, 1), CAST);
        due("missing", x.copy(3, -1, 0, 0, 1), NULL);
        due("missing", x.copy(0, 0, 3, 0, -1), NULL);
        due("both", x.copy(3, 0, 3, 0, 1), NULL);
        for (int v : new int[] {-1, 4, LOW, HIGH}) {
            due("from no sheet", x.copy(v, 0, 3, 0, 1), BAD);
            due("to no sheet", x.copy(3, 0, v, 0, 1), BAD);
        }
    }
}
