/** The sentences of 'Terms' that name a boundary, each with a test of its own. */
public final class TermsSentenceTest extends Sentences {
    /** A lame one whom waves wear down so slowly that he falls behind the 40th night, not ahead of it. */
    private static final String FALLS_BEHIND_40 = "2+1^2;l9@5";
    /** Touched in nights 0, 11, 12, 23, .. 48; in night 59 his grip of 1 is below 2. */
    private static final String FALLS_BEHIND_60 = "1+1^2;l9@0";

    public static void main(String[] args) {
        answers();
        refusals();
        theRim();
        theWaves();
        grips();
        aNight();
        steps();
        foretold();
        postAndSafe();
        change();
        coats();
        guardAndCalm();
        steam();
        worn();
        undone();
        drift();
        rimTexts();
        rimFaults();
        sheets();
        anObject();
        end();
    }

    private static void answers() {
        says("Terms", "Answers below 0", () -> {
            int[] got = {BathRim.BAD, BathRim.NOT, BathRim.FULL, BathRim.NONE, BathRim.NULL, BathRim.CAST, BathRim.INDEX,
                BathRim.SIZE};
            int[] want = {BAD, NOT, FULL, NONE, NULL, CAST, INDEX, SIZE};
            for (int k = 0; k < want.length; k++) {
                due("constant " + k, got[k], want[k]);
            }
        });
        says("Terms", "of several the first that a call names", () -> {
            BathRim x = told("0+0^0;p0@0,p0@1,p0@2,p0@3,p0@4,p9");
            due("BAD ahead of FULL, NOT", x.man(5, 0, 0), BAD);
            due("FULL ahead of NOT", x.man(0, 0, 0), FULL);
            due("BAD ahead of NOT", x.march(5, 12), BAD);
            due("BAD ahead of NOT", x.put(0, 12), BAD);
            due("BAD ahead of NOT", x.paint(5, 10), BAD);
            due("BAD ahead of NONE", x.coats(9, 1, 6), BAD);
            BathRim nobody = new BathRim();
            due("BAD ahead of NONE", nobody.change(41, 0), BAD);
            due("BAD ahead of NONE", nobody.coats(0, 31, -1), BAD);
            due("BAD ahead of NONE", nobody.coats(0, 1, -3), BAD);
            tell(nobody, "0".repeat(60));
            due("BAD ahead of FULL", nobody.type(127), BAD);
            BathRim last = late("0+0^0", 0);
            due("BAD ahead of FULL", last.nights(41), BAD);
            due("BAD ahead of FULL", last.drift(0), BAD);
            due("BAD ahead of SIZE", x.sheet(4, 0, -1), BAD);
            due("BAD ahead of SIZE", x.sheet(0, -1, -1), BAD);
            due("BAD ahead of NULL", x.worn(6, 0, 0, 0, 1, 0), BAD);
            due("BAD ahead of NULL", x.film(0, 25, 0, 0, 0), BAD);
            due("BAD ahead of NULL", x.item(0, 4, 0, 0), BAD);
            due("BAD ahead of NULL", x.copy(0, 0, 4, 0, 1), BAD);
        });
        says("Terms", "NULL, CAST, INDEX, SIZE in this order", () -> {
            BathRim x = rich();
            due("NULL ahead of INDEX", x.worn(0, 3, 0, -1, 1, 0), NULL);
            due("CAST ahead of INDEX", x.worn(0, 0, 1, 3, 1, 0), CAST);
            due("NULL ahead of INDEX", x.film(0, 24, 3, 0, 1), NULL);
            due("CAST ahead of INDEX", x.film(0, 24, 1, 2, 1), CAST);
            due("NULL ahead of INDEX", x.item(3, 3, 24, 1), NULL);
            due("CAST ahead of INDEX", x.item(2, 3, 0, 1), CAST);
            due("NULL ahead of CAST, INDEX", x.copy(0, 9, 3, 9, 9), NULL);
            due("CAST ahead of INDEX", x.copy(0, 9, 1, 9, 9), CAST);
        });
        says("Terms", "Sets are bits", () -> {
            BathRim x = told("0+0^0;p0,p0@0,p0,p0,p0,p0@11");
            due("who stands", x.count(3), 2 + 32);
            due("inches", x.count(4), 1 + 2048);
            due("held", x.held(0), 1 + 2048);
            due("nobody", new BathRim().count(3), 0);
        });
        says("Terms", "What is divided is cut", () -> {
            due("half of 3", told("0+0^0;l1@0").of(0, 3), 1);
            due("half of 11", told("0+0^0;l9@0").of(0, 3), 5);
            due("half of 11", told("0+0^0;d9@0").of(0, 3), 5);
        });
    }

    private static void refusals() {
        says("Terms", "What is refused changes nothing, but as told", () -> {
            refused("man BAD", BAD, Sentences::few, x -> x.man(0, 10, 0));
            refused("man FULL", FULL, Sentences::rich, x -> x.man(0, 1, 9));
            refused("man NOT", NOT, Sentences::few, x -> x.man(0, 1, 3));
            refused("rule BAD", BAD, Sentences::rich, x -> x.rule(2, 13));
            refused("rule BAD", BAD, Sentences::rich, x -> x.rule(1, 12));
            refused("type BAD", BAD, Sentences::rich, x -> x.type(31));
            refused("type FULL", FULL, TermsSentenceTest::longTape, x -> x.type('x'));
            refused("nights BAD", BAD, Sentences::rich, x -> x.nights(41));
            refused("nights FULL", FULL, TermsSentenceTest::nearTheLast, x -> x.nights(3));
            refused("march BAD", BAD, Sentences::rich, x -> x.march(2, 12));
            refused("march NOT", NOT, Sentences::few, x -> x.march(1, 0));
            refused("march NOT", NOT, Sentences::few, x -> x.march(0, 11));
            refused("march NOT", NOT, Sentences::few, x -> x.march(0, 3));
            refused("put BAD", BAD, Sentences::few, x -> x.put(1, -1));
            refused("put NOT", NOT, Sentences::few, x -> x.put(0, 5));
            refused("put NOT", NOT, Sentences::few, x -> x.put(1, 3));
            refused("paint BAD", BAD, Sentences::few, x -> x.paint(0, 10));
            refused("paint NOT", NOT, Sentences::few, x -> x.paint(2, 1));
            refused("drift BAD", BAD, Sentences::rich, x -> x.drift(0));
            refused("drift FULL", FULL, TermsSentenceTest::nearTheLast, x -> x.drift(3));
            refused("undo NONE", NONE, BathRim::new, BathRim::undo);
            refused("seed BAD", BAD, Sentences::rich, x -> x.seed(-1));
            refused("restore NONE", NONE, Sentences::few, BathRim::restore);
        });
        says("Terms", "What is refused changes nothing, but as told", () -> {
            refused("film BAD", BAD, Sentences::rich, x -> x.film(2, 25, 0, 0, 0));
            refused("film NULL", NULL, Sentences::rich, x -> x.film(2, 1, 3, 0, 0));
            refused("film CAST", CAST, Sentences::rich, x -> x.film(2, 1, 1, 0, 0));
            refused("film INDEX", INDEX, Sentences::rich, x -> x.film(2, 2, 1, 3, 1));
            refused("sheet BAD", BAD, Sentences::rich, x -> x.sheet(0, 1, 25));
            refused("sheet SIZE", SIZE, Sentences::rich, x -> x.sheet(0, 1, -1));
            refused("drop BAD", BAD, Sentences::rich, x -> x.drop(4));
            refused("drop NULL", NULL, Sentences::rich, x -> x.drop(3));
            refused("item BAD", BAD, Sentences::rich, x -> x.item(1, 4, 0, 7));
            refused("item NULL", NULL, Sentences::rich, x -> x.item(3, 0, 0, 7));
            refused("item CAST", CAST, Sentences::rich, x -> x.item(1, 2, 0, 7));
            refused("item INDEX", INDEX, Sentences::rich, x -> x.item(1, 3, 2, 7));
            refused("copy BAD", BAD, Sentences::rich, x -> x.copy(0, 0, -1, 0, 1));
            refused("copy NULL", NULL, Sentences::rich, x -> x.copy(0, 0, 3, 0, 1));
            refused("copy CAST", CAST, Sentences::rich, x -> x.copy(0, 0, 1, 0, 1));
            refused("copy INDEX", INDEX, Sentences::rich, x -> x.copy(0, 0, 0, 1, 3));
        });
    }

    private static BathRim longTape() {
        BathRim x = new BathRim();
        tell(x, "9+8^7;v6@5");
        tell(x, " ".repeat(49));
        x.type('9');
        return x;
    }

    private static BathRim nearTheLast() {
        return late("0+1^1;p9@0", 2);
    }

    private static void theRim() {
        says("Terms 1", "THE RIM has INCHES 0 .. 11 in a row", () -> {
            bounds("at(v, 0)", 0, 11, v -> new BathRim().at(v, 0));
            BathRim x = told("0+0^0;g0@0,g0@11");
            due("0 is not next to 11", x.of(0, 4), 0);
            due("11 is not next to 0", x.of(1, 4), 0);
        });
        says("Terms 1", "MEN 0 .. 5, as they come", () -> {
            BathRim x = new BathRim();
            for (int m = 0; m < 6; m++) {
                due("no man " + m + " yet", x.of(m, 0), BAD);
                due("man " + m, x.man(m % 5, 9 - m, 11 - m), m);
            }
            for (int m = 0; m < 6; m++) {
                due("his kind", x.of(m, 0), m % 5);
                due("his paint", x.of(m, 1), 9 - m);
                due("his inch", x.of(m, 2), 11 - m);
            }
            due("no man 6", x.of(6, 0), BAD);
        });
        says("Terms 1", "have PAINT 0 .. 9", () -> {
            bounds("man(0, v, 0)", 0, 9, v -> new BathRim().man(0, v, 0));
            BathRim x = told("0+0^1;p0@0,p9@5");
            x.nights(1);
            due("not below 0", x.of(0, 1), 0);
            x.rule(2, 0);
            due("not above 9", x.coats(8, 1, -2), 17);
        });
        says("Terms 1", "stand at an INCH (no two at one), or are FALLEN", () -> {
            BathRim x = few();
            due("a new man", x.man(0, 0, 11), NOT);
            due("a march", x.march(0, 11), NOT);
            due("one put back", x.put(1, 11), NOT);
            due("a text", answerTo("0+0^0;p0@11,p0@11"), -35);
            due("two inches for two who stand", x.count(4), 8 + 2048);
            due("one is FALLEN", x.of(1, 2), NONE);
            // 1103527590 by 65536 is 16838, left over by 3 is 2; by 128 is 8621309, left over by 12 is 5
            BathRim y = told("0+0^0;p0@2,p0@5,p0@1");
            y.drift(1);
            due("a drift", y.count(4), 4 + 32 + 2);
        });
    }

    private static void theWaves() {
        says("Terms 1", "a SOURCE 0 .. 11", () -> bounds("rule(0, v)", 0, 11, v -> new BathRim().rule(0, v)));
        says("Terms 1", "a STRIDE 0 .. 11", () -> bounds("rule(1, v)", 0, 11, v -> new BathRim().rule(1, v)));
        says("Terms 1", "a HEIGHT 0 .. 12", () -> bounds("rule(2, v)", 0, 12, v -> new BathRim().rule(2, v)));
        says("Terms 1", "(0, 1, 5 at first)", () -> {
            BathRim x = new BathRim();
            due("SOURCE", x.count(6), 0);
            due("STRIDE", x.count(7), 1);
            due("HEIGHT", x.count(8), 5);
            due("the first wave", x.at(0, 1), 5);
            due("the second", x.wave(1, 1), 5);
        });
        says("Terms 1", "the INCH SOURCE and n times STRIDE, left over by 12", () -> {
            BathRim x = told("11+11^1");
            for (int n = 0; n <= 60; n++) {
                int crest = (11 + 11 * n) % 12;
                due("its crest in night " + n, x.wave(crest, n), 1);
                due("an inch off in night " + n, x.wave((crest + 1) % 12, n), 0);
            }
            BathRim y = told("10+1^1");
            due("10 and 1", y.wave(11, 1), 1);
            due("10 and 2 is 0", y.wave(0, 2), 1);
            y.nights(2);
            due("10 and 2 is 0 in that night", y.at(0, 1), 1);
            BathRim still = told("7+0^1");
            due("no stride", still.wave(7, 60), 1);
        });
        says("Terms 1", "it is HIGH by HEIGHT there, 1 less for each INCH off", () -> {
            BathRim x = told("5+0^6");
            int[] high = {1, 2, 3, 4, 5, 6, 5, 4, 3, 2, 1, 0};
            for (int inch = 0; inch < 12; inch++) {
                due("at inch " + inch, x.at(inch, 1), high[inch]);
            }
        });
        says("Terms 1", "(0 at least; not round)", () -> {
            due("0 at least", told("0+0^5").at(11, 1), 0);
            due("0 at least", told("3+0^0").at(4, 1), 0);
            due("0 at least", told("0+0^3").at(3, 1), 0);
            due("not round", told("11+0^5").at(0, 1), 0);
            due("12 high, 11 off", told("0+0^12").at(11, 1), 1);
            due("12 high, 11 off", told("11+0^12").at(0, 1), 1);
        });
        says("Terms 1", "It is NIGHT 0 at first", () -> due("count(2)", new BathRim().count(2), 0));
    }

    private static void grips() {
        says("Terms 1", "0 PLAIN: PAINT and 2", () -> {
            BathRim x = told("0+0^0;p0@3,p9@4,p5@5,p0");
            due("without paint, one next to him, one fallen", x.of(0, 3), 2);
            due("all paint", x.of(1, 3), 11);
            x.nights(1);
            due("in an odd night", x.of(2, 3), 7);
        });
        says("Terms 1", "1 LAME: half of that", () -> {
            BathRim x = told("0+0^0;l0@3,l1@4,l2@5,l9@6,p0");
            int[] grips = {1, 1, 2, 5};
            x.nights(1);
            for (int m = 0; m < 4; m++) {
                due("of(" + m + ", 3)", x.of(m, 3), grips[m]);
            }
        });
        says("Terms 1", "1 more for each who stands next to him (at an INCH 1 off)", () -> {
            due("alone", told("0+0^0;g9@5").of(0, 3), 11);
            due("one below", told("0+0^0;g0@5,p0@4").of(0, 3), 3);
            due("one above", told("0+0^0;g0@5,p0@6").of(0, 3), 3);
            due("both", told("0+0^0;p0@6,g0@5,p0@4").of(1, 3), 4);
            due("2 off", told("0+0^0;g0@5,p0@3,p0@7").of(0, 3), 2);
            due("at the one end", told("0+0^0;g0@0,p0@1,p0@11").of(0, 3), 3);
            due("at the other end", told("0+0^0;g0@11,p0@10,p0@0").of(0, 3), 3);
            due("fallen ones", told("0+0^0;g0@5,p0,p0").of(0, 3), 2);
            due("fallen ones, at the end", told("0+0^0;p0,g0@0,p0").of(1, 3), 2);
            // the lame one next to him falls; then nobody stands there
            BathRim x = told("5+0^2;g9@6,l0@5");
            x.nights(1);
            due("one who fell", x.of(0, 3), 10);
        });
        says("Terms 1", "3 more in NIGHTS of an odd number", () -> {
            BathRim x = told("0+0^0;d0@5,d9@6,l9@4,p9@7");
            due("night 0", x.of(0, 3), 1);
            x.nights(1);
            due("night 1", x.of(0, 3), 4);
            due("night 1, all paint", x.of(1, 3), 8);
            due("a lame one", x.of(2, 3), 5);
            due("a plain one", x.of(3, 3), 11);
            x.nights(1);
            due("night 2", x.of(0, 3), 1);
        });
        says("Terms 1", "1 more for each who is FALLEN", () -> {
            due("none", told("0+0^0;v0@5").of(0, 3), 2);
            due("five", told("0+0^0;v9@5,p0,p0,p0,p0,p0").of(0, 3), 16);
            due("as GENERAL", told("0+0^0;v0@5,p0@4,p0@6,p0,p0,p0").of(0, 3), 7);
            due("a general counts none", told("0+0^0;g0@5,p0,p0").of(0, 3), 2);
        });
    }

    private static void aNight() {
        says("Terms 1", "all whose GRIP is less than the WAVE is HIGH at their INCH fall", () -> {
            due("less falls, as much stands", told("5+0^3;p0@5,p0@6").nights(1), 2);
            due("more stands", told("5+0^3;p2@5").nights(1), 1);
            due("11 by 12", told("0+0^12;p9@0").nights(1), 0);
        });
        says("Terms 1", "fall, by how all is ahead of it", () -> {
            // next to one who falls in the same night the general has 3 by 3
            due("a general told first", told("5+0^4;g0@6,p0@5").nights(1), 1);
            due("a general told last", told("5+0^4;p0@5,g0@6").nights(1), 2);
            // one who falls in the same night is not FALLEN ahead of it: 2 by 3
            due("a veteran told first", told("5+0^5;v0@7,p0@5").nights(1), 0);
            due("a veteran told last", told("5+0^5;p0@5,v0@7").nights(1), 0);
        });
        says("Terms 1", "all others who stand, and where it is HIGH by more than 0, have 1 PAINT less (0 at least)", () -> {
            BathRim x = told("0+0^3;p9@0,p9@2,p9@3,p9,p0@1");
            due("who stands", x.nights(1), 1 + 2 + 4 + 16);
            int[] paints = {8, 8, 9, 9, 0};
            for (int m = 0; m < 5; m++) {
                due("paint of " + m, x.of(m, 1), paints[m]);
            }
            BathRim y = told("0+0^12;p9@0");
            y.nights(1);
            due("who falls keeps his", y.of(0, 1), 9);
            BathRim z = told("0+0^1;l1@0");
            z.nights(2);
            due("1, then 0, then 0", z.of(0, 1), 0);
        });
        says("Terms 1", "It is the next NIGHT", () -> {
            BathRim x = new BathRim();
            x.nights(1);
            due("without men", x.count(2), 1);
            x.drift(2);
            due("by a drift", x.count(2), 3);
        });
    }

    private static void steps() {
        says("Terms 1", "MARCHED: one who stands is at another INCH where nobody is", () -> {
            BathRim x = few();
            due("from 3 to 0", x.march(0, 0), 3);
            due("his inch", x.of(0, 2), 0);
            due("where he was nobody is", x.at(3, 0), NONE);
            due("one who is FALLEN", x.march(1, 3), NOT);
            due("where somebody is", x.march(2, 0), NOT);
        });
        says("Terms 1", "PUT back: one who is FALLEN stands at an INCH where nobody is", () -> {
            BathRim x = few();
            due("one who stands", x.put(0, 0), NOT);
            due("where somebody is", x.put(1, 3), NOT);
            due("where nobody is", x.put(1, 0), 3);
            due("his inch", x.of(1, 2), 0);
        });
        says("Terms 1", "PAINTED: one (who stands, or is FALLEN) has n PAINT more (9 at most)", () -> {
            BathRim x = told("0+0^0;p0@0,p4");
            due("one who stands", x.paint(0, 1), 1);
            due("one who is FALLEN", x.paint(1, 4), 8);
            due("he stays FALLEN", x.of(1, 2), NONE);
            due("9 at most", x.paint(1, 9), 9);
            due("9 as it comes", x.paint(0, 8), 9);
        });
        says("Terms 1", "HELD by r (0 .. 5): INCHES that are r or less off one who stands", () -> {
            bounds("held(v)", 0, 5, v -> rich().held(v));
            BathRim x = told("0+0^0;p0@5,p0");
            int[] held = {32, 112, 248, 508, 1022, 2047};
            for (int r = 0; r <= 5; r++) {
                due("held(" + r + ")", x.held(r), held[r]);
            }
            due("not beyond 0", told("0+0^0;p0@0").held(5), 63);
            due("not beyond 11", told("0+0^0;p0@11").held(5), 4032);
        });
    }

    private static void foretold() {
        says("Terms 2", "FORETOLD from now (nothing is changed)", () -> {
            leavesAll("ahead", Sentences::rich, x -> x.ahead(2, 60, 0));
            leavesAll("then", Sentences::rich, x -> x.then(60));
            leavesAll("falls", Sentences::rich, x -> x.falls(3));
            leavesAll("alone", Sentences::rich, BathRim::alone);
            leavesAll("post", Sentences::rich, x -> x.post(0, 40, 0));
            leavesAll("safe", Sentences::rich, x -> x.safe(1, 40));
            leavesAll("change", Sentences::rich, x -> x.change(40, 0));
            leavesAll("coats", Sentences::rich, x -> x.coats(8, 30, 0));
            leavesAll("guard", Sentences::rich, x -> x.guard(2, 1));
            leavesAll("calm", Sentences::rich, x -> x.calm(40));
            leavesAll("steam", Sentences::rich, x -> x.steam(2, 3, 0));
            for (int what = 0; what < 3; what++) {
                int asked = what;
                leavesAll("worn", Sentences::rich, x -> x.worn(2, 0, 0, 0, 3, asked));
            }
        });
        says("Terms 2", "behind n NIGHTS (0 .. 60) where one stands; PAINT; who stands (a set)", () -> {
            BathRim x = told(FALLS_BEHIND_60);
            due("behind none", x.ahead(0, 0, 0), 0);
            due("behind 59", x.ahead(0, 59, 0), 0);
            due("behind 60", x.ahead(0, 60, 0), NONE);
            due("behind none", x.then(0), 1);
            due("behind 59", x.then(59), 1);
            due("behind 60", x.then(60), 0);
            BathRim y = told("1+1^1;p9@0"); // touched in nights 11, 23, 35, 47, 59
            due("paint behind none", y.ahead(0, 0, 1), 9);
            due("paint behind 59", y.ahead(0, 59, 1), 5);
            due("paint behind 60", y.ahead(0, 60, 1), 4);
        });
        says("Terms 2", "FALLS of one: the first of 0 to 60 NIGHTS behind which he is FALLEN; none", () -> {
            due("he is FALLEN", told("0+0^0;p9").falls(0), 0);
            due("the first night", told("0+0^3;p0@0").falls(0), 1);
            due("the last", told(FALLS_BEHIND_60).falls(0), 60);
            due("none", told("0+0^2;p0@0").falls(0), NONE);
        });
        says("Terms 2", "ALONE: the first of 0 to 60 NIGHTS behind which one stands at most; none", () -> {
            due("no men", new BathRim().alone(), 0);
            due("all are FALLEN", told("0+0^0;p0,p0").alone(), 0);
            due("one stands", told("0+0^0;p0,p0@0").alone(), 0);
            due("two fall at once", told("5+0^5;p0@5,p0@6").alone(), 1);
            due("one of two falls", told("5+0^5;p0@5,p0@0").alone(), 1);
            due("one of three falls", told("5+0^5;p0@5,p0@0,p0@11").alone(), NONE);
            due("the last", told(FALLS_BEHIND_60 + ",p0@11").alone(), 60);
            due("none", told("0+0^2;p0@0,p0@11").alone(), NONE);
        });
    }

    private static void postAndSafe() {
        says("Terms 2", "POST for one, n NIGHTS (1 .. 40)", () -> {
            bounds("post(0, v, 0)", 1, 40, v -> rich().post(0, v, 0));
            BathRim x = told(FALLS_BEHIND_40 + ",p0");
            due("39 nights", x.post(1, 39, 1), 2);
            due("40 nights", x.post(1, 40, 1), 1);
            due("1 night", told("0+0^2;l2@0,p0").post(1, 1, 1), 2);
        });
        says("Terms 2", "the INCH (his own, or one where nobody is)", () -> {
            BathRim x = told("11+0^5;p0@0,p0@1");
            due("his own", x.post(0, 1, 0), 0);
            due("not another's", x.post(1, 1, 0), 1);
            // man 4 falls at each INCH where nobody is; the first of them is 1
            BathRim y = told("0+0^11;p9@0,p0@9,p0@10,p0@11,p0");
            due("not another's, where he would fall with him", y.post(4, 1, 0), 1);
            due("how many", y.post(4, 1, 1), 4);
            BathRim z = told("0+0^12;p0@0,p0@10,p0@11");
            due("none behind 11", z.post(0, 1, 0), 0);
            due("none behind 11", z.post(0, 1, 1), 2);
            due("none ahead of 0", told("11+0^12;p0@11,p0@0,p0@1").post(0, 1, 1), 2);
        });
        says("Terms 2", "at which he should be now (stand there, FALLEN or not)", () -> {
            BathRim x = told("0+0^3;v0@0,p0");
            // stands he, he is FALLEN no more: the veteran has 3 only by one at inch 1
            due("where", x.post(1, 1, 0), 1);
            due("how many", x.post(1, 1, 1), 2);
            due("anywhere", told("0+0^0;p0").post(0, 1, 0), 0);
            due("he stands there", told("0+0^0;p0").post(0, 1, 1), 1);
        });
        says("Terms 2", "so that most stand behind them, of like ones the first: which; how many", () -> {
            BathRim x = told("0+0^6;p9@11,g0@3"); // the general has 3 by 3 with one at 2 or 4
            due("where", x.post(0, 1, 0), 2);
            due("how many", x.post(0, 1, 1), 2);
            due("the first of like ones", told("0+0^5;p0@0").post(0, 1, 0), 3);
            BathRim y = told("0+1^12;l0@0,p9"); // none can stand so long
            due("the first, though none stands", y.post(0, 40, 0), 0);
            due("none stands", y.post(0, 40, 1), 0);
        });
        says("Terms 2", "SAFE for one, n NIGHTS (1 .. 40)", () -> {
            bounds("safe(0, v)", 1, 40, v -> rich().safe(0, v));
            BathRim x = told(FALLS_BEHIND_40);
            due("39 nights", x.safe(0, 39) >> 5 & 1, 1);
            due("40 nights", x.safe(0, 40) >> 5 & 1, 0);
        });
        says("Terms 2", "INCHES (a set; likewise) at which he would stand behind them", () -> {
            BathRim x = told("5+0^6;p0@5,l0@0,p0");
            due("2 by 4 off, not where another is", x.safe(0, 1), 2 + 512 + 1024 + 2048);
            due("one who is FALLEN", x.safe(2, 1), 2 + 512 + 1024 + 2048);
            due("his own", x.safe(1, 1), 1 + 1024 + 2048);
            due("nowhere", told("0+1^12;p0@0").safe(0, 40), 0);
            due("everywhere", told("0+1^0;p0@0").safe(0, 40), 4095);
        });
    }

    private static void change() {
        says("Terms 2", "CHANGE for n NIGHTS (1 .. 40)", () -> {
            bounds("change(v, 0)", 1, 40, v -> rich().change(v, 0));
            BathRim x = told("2+1^2;l9@11,p0@5");
            due("39 nights", x.change(39, 1), 2);
            due("40 nights", x.change(40, 1), 1);
        });
        says("Terms 2", "the two who stand, and should have each other's INCHES now, so that most stand behind them", () -> {
            BathRim x = told("0+0^5;p0@0,p0@11,p9@10,p0");
            due("the two", x.change(1, 0), 2);
            due("how many", x.change(1, 1), 3);
            BathRim y = told("0+0^5;p9@0,p0@11");
            due("they change, though none need", y.change(1, 0), 1);
            due("they change, though one falls", y.change(1, 1), 1);
            due("not one who is FALLEN", told("0+0^0;p0,p0@0,p0,p0@5").change(1, 0), 13);
        });
        says("Terms 2", "of like ones the first (10 i and j, the lesser number i): told as 10 i and j", () -> {
            due("of like ones the first", told("0+0^0;p0@0,p0@1,p0@2,p0@3").change(1, 0), 1);
            due("the last two", told("0+0^0;p0,p0,p0,p0,p0@3,p0@2").change(1, 0), 45);
            // men 2 and 3 would stand where man 1 falls, man 0 would not: 12 and 13 are like ones
            due("12", told("0+0^5;l0@9,p0@0,p9@10,p9@11").change(1, 0), 12);
            due("by how many", told("0+0^5;l0@9,p0@0,p9@10,p9@11").change(1, 1), 4);
        });
        says("Terms 2", "how many; none: no two stand", () -> {
            for (int what = 0; what < 2; what++) {
                due("no men", new BathRim().change(1, what), NONE);
                due("one", told("0+0^0;p0@0").change(1, what), NONE);
                due("one of two", told("0+0^0;p0@0,p0").change(1, what), NONE);
            }
            due("two", told("0+0^0;p0@0,p0,p0@1").change(1, 0), 2);
            due("two who fall", told("5+0^12;p0@5,p0@6").change(1, 1), 0);
        });
    }

    private static void parted(String text, int k, int n, int... want) {
        BathRim x = told(text);
        for (int i = -2; i < want.length - 2; i++) {
            due("coats(" + k + ", " + n + ", " + i + ") of " + text, x.coats(k, n, i), want[i + 2]);
        }
    }

    /** Each change of it, of those that the test of coats knows, parts three coats in another way or to other paint. */
    private static BathRim asked() {
        BathRim x = told("0+1^5;p2@3,l1,g0@1");
        x.image();
        x.march(2, 2);
        return x;
    }

    private static String partedByThree(BathRim x) {
        StringBuilder text = new StringBuilder();
        for (int i = -2; i <= 3; i++) {
            text.append(x.coats(3, 2, i)).append(' ');
        }
        return text.toString();
    }

    private static void coats() {
        says("Terms 2", "COATS of k (0 .. 8), n NIGHTS (1 .. 30)", () -> {
            bounds("coats(v, 1, 0)", 0, 8, v -> rich().coats(v, 1, 0));
            bounds("coats(0, v, 0)", 1, 30, v -> rich().coats(0, v, 0));
            BathRim x = told("0+1^2;l8@5"); // falls in night 29
            due("29 nights", x.coats(0, 29, -1), 1);
            due("30 nights", x.coats(0, 30, -1), 0);
            parted("0+0^0;p5@0", 0, 1, 5, 1, 0);
            parted("0+0^0;p0@0", 8, 1, 8, 1, 8);
            parted("0+0^10;p0@0,p0,p0,p0,p0,p0", 8, 1, 7, 1, 8, 0, 0, 0, 0, 0); // 8 make a grip of 10
            parted("0+0^10;p0@0,p0,p0,p0,p0,p0", 7, 1, 0, 0, 0, 0, 0, 0, 0, 7); // 7 do not
        });
        says("Terms 2", "(1 PAINT each, 9 at most, what is above is lost)", () -> {
            parted("0+0^0;p9@0", 8, 1, 9, 1, 8);
            parted("0+0^0;p7@0", 3, 1, 9, 1, 3);
            parted("0+0^1;p7@0", 2, 1, 8, 1, 2);
        });
        says("Terms 2", "should be parted among all MEN now", () -> {
            parted("0+0^0;p9@0,p9", 3, 1, 9, 1, 0, 3); // the FALLEN one takes what is lost on the other
            parted("0+0^0;p3,p4", 3, 1, 0, 0, 0, 3);
        });
        says("Terms 2", "parted among all MEN now", () -> {
            Step[] changes = {x -> x.paint(0, 1), x -> x.march(0, 0), x -> x.rule(0, 1), x -> x.rule(1, 2), x -> x.rule(2, 4),
                x -> x.nights(1), x -> x.put(1, 6), x -> x.man(0, 4, 10), x -> x.paint(2, 1), x -> x.march(2, 4),
                x -> x.undo(), x -> x.restore()};
            String before = partedByThree(asked());
            for (int k = 0; k < changes.length; k++) {
                BathRim asked = asked();
                partedByThree(asked);
                changes[k].on(asked);
                BathRim fresh = asked();
                changes[k].on(fresh);
                String behind = partedByThree(fresh);
                same("change " + k, partedByThree(asked), behind);
                due("change " + k + " tells nothing: 1", behind.equals(before) ? 1 : 0, 0);
                due("of other coats", asked.coats(4, 2, -2), fresh.coats(4, 2, -2));
                due("for other nights", asked.coats(4, 3, -2), fresh.coats(4, 3, -2));
            }
            BathRim x = told("0+1^5;p9@0");
            due("in night 0", x.coats(0, 1, -2), 8);
            x.rule(2, 0);
            x.nights(6);
            x.rule(2, 5);
            due("in night 6", x.coats(0, 1, -2), 9);
            BathRim one = told("0+0^1;p2@0");
            due("as told", one.coats(1, 1, -2), 2);
            one.paint(0, 1);
            due("with more paint", one.coats(1, 1, -2), 3);
            one.march(0, 1);
            due("at another INCH", one.coats(1, 1, -2), 4);
            for (String kind : new String[] {"p", "l", "g", "d", "v"}) {
                tell(x, "0+1^4;" + kind + "2@0");
                x.rim();
                due("kind " + kind, x.coats(0, 1, -1), kind.equals("l") || kind.equals("d") ? 0 : 1);
            }
        });
        says("Terms 2", "so that most stand behind them, of like ones PAINT of who stands then is most together", () -> {
            parted("0+0^5;p0@0,p0@11", 3, 1, 2, 2, 3, 0); // 3 make a grip of 5
            parted("0+0^5;p0@0,p0@11", 2, 1, 2, 1, 0, 2); // 2 do not
            parted("0+0^0;p5@0,p9@1", 2, 1, 16, 2, 2, 0);
            parted("0+0^0;p0@0,p0", 2, 1, 2, 1, 2, 0); // PAINT of who is FALLEN does not count
        });
        says("Terms 2", "of like ones the first (coats of man 0, then 1, rising)", () -> {
            parted("0+0^0;p0@0,p0@1,p0@2", 2, 1, 2, 3, 0, 0, 2);
            parted("0+0^0;p0@0,p0@1,p9@2", 2, 1, 11, 3, 0, 2, 0);
            parted("0+0^0;p8@0,p8@1,p8@2", 2, 1, 26, 3, 0, 1, 1);
        });
        says("Terms 2", "how many stand; PAINT; the coats of man i; none: there are none", () -> {
            for (int i = -2; i < 7; i++) {
                due("without men", new BathRim().coats(3, 1, i), NONE);
            }
            parted("0+0^0;p1", 3, 1, 0, 0, 3, NONE);
        });
    }

    private static void guardAndCalm() {
        says("Terms 2", "GUARD by r (0 .. 5): the fewest of those who stand who alone would hold all that is HELD by r now", () -> {
            bounds("guard(v, 0)", 0, 5, v -> rich().guard(v, 0));
            BathRim x = told("0+0^0;p0@4,p0@3,p0@5,p0");
            due("by 0 all are needed", x.guard(0, 0), 3);
            due("by 0 all are needed", x.guard(0, 1), 7);
            due("by 1 the outer two", x.guard(1, 0), 2);
            due("by 1 the outer two", x.guard(1, 1), 6);
            // by 5: 0 .. 10 is held, by the one at 5 alone
            due("by 5 one", x.guard(5, 0), 1);
            due("by 5 one", x.guard(5, 1), 4);
            due("nobody stands", told("0+0^0;p0").guard(5, 0), 0);
            due("nobody stands", told("0+0^0;p0").guard(5, 1), 0);
        });
        says("Terms 2", "of like ones the least set: how many; which", () -> {
            due("men 0 and 1, not 2 and 3", told("0+0^0;p0@0,p0@11,p0@6,p0@5").guard(5, 1), 3);
            // men 0 and 3, 1 and 2, 1 and 3 would hold all, as sets 9, 6, 10
            due("men 1 and 2", told("0+0^0;p0@0,p0@1,p0@10,p0@9").guard(4, 1), 6);
            due("how many", told("0+0^0;p0@0,p0@1,p0@10,p0@9").guard(4, 0), 2);
        });
        says("Terms 2", "CALM for n NIGHTS (1 .. 40)", () -> {
            bounds("calm(v)", 1, 40, v -> rich().calm(v));
            BathRim x = told(FALLS_BEHIND_40);
            due("39 nights", x.calm(39), 2);
            due("40 nights", x.calm(40), 1);
        });
        says("Terms 2", "the greatest HEIGHT (0 .. 12) from now on by which all who stand now stand behind them", () -> {
            due("12 by nobody", new BathRim().calm(40), 12);
            due("12 by one far off", told("0+0^0;p0@10").calm(40), 12);
            due("11 by a grip of 11", told("0+0^0;p9@0").calm(1), 11);
            due("all, not most", told("0+0^0;p9@0,l0@2,p9@1").calm(1), 3);
            due("one who is FALLEN has no part", told("0+0^0;p9@0,l0").calm(1), 11);
            due("whatever it is now", told("0+0^12;p9@0").calm(1), 11);
        });
    }

    private static void odds(BathRim x, int m, int c, int above, int below) {
        due("steam(" + m + ", " + c + ", 0)", x.steam(m, c, 0), above);
        due("steam(" + m + ", " + c + ", 1)", x.steam(m, c, 1), below);
    }

    private static void steam() {
        says("Terms 2", "STEAM by c of 10 (0 .. 10): each who stands has no GRIP (0) in this NIGHT by c of 10, apart", () -> {
            bounds("steam(0, v, 0)", 0, 10, v -> rich().steam(0, v, 0));
            BathRim x = told("5+0^5;p9@5,p9@6,p9@11,p9,l0@4");
            // men 0 and 1 by their grip, man 2 where it is 0 high, man 3 FALLEN, man 4 falls however
            odds(x, 3, 0, 1, 1);
            odds(x, 4, 0, 0, 1);
            odds(x, 1, 10, 1, 1);
            odds(x, 2, 10, 0, 1);
            odds(x, 3, 3, 49, 100);
            odds(x, 2, 3, 91, 100);
            odds(told("5+0^4;g0@5,p9@4,p9@6"), 3, 5, 1, 8); // who has no grip still stands next to the general
            BathRim y = told("0+6^1;p0@0,p0@6,p0@11");
            odds(y, 3, 3, 7, 10);
            y.march(2, 7);
            y.march(0, 1);
            odds(y, 3, 3, 1, 1); // the wave is at 0 in this NIGHT, at 6 in the next
            y.nights(1);
            odds(y, 3, 3, 7, 10);
        });
        says("Terms 2", "how likely m (0 .. 6) at least stand behind it", () -> {
            bounds("steam(v, 0, 0)", 0, 6, v -> rich().steam(v, 0, 0));
            BathRim six = told("5+0^9;p9@5,p9@6,p9@7,p9@3,p9@4,p9@8");
            odds(six, 0, 10, 1, 1);
            odds(six, 6, 9, 1, 1000000);
            odds(six, 6, 1, 531441, 1000000);
            odds(six, 6, 0, 1, 1);
            odds(new BathRim(), 0, 3, 1, 1);
            odds(new BathRim(), 1, 3, 0, 1);
        });
        says("Terms 2", "a fraction in lowest terms", () -> {
            BathRim one = told("5+0^5;p9@5");
            int[][] lowest = {{1, 1}, {9, 10}, {4, 5}, {7, 10}, {3, 5}, {1, 2}, {2, 5}, {3, 10}, {1, 5}, {1, 10}, {0, 1}};
            for (int c = 0; c <= 10; c++) {
                odds(one, 1, c, lowest[c][0], lowest[c][1]);
            }
            BathRim x = told("5+0^5;p9@5,p9@6");
            odds(x, 2, 5, 1, 4);
            odds(x, 1, 5, 3, 4);
            odds(x, 2, 8, 1, 25);
            odds(x, 3, 5, 0, 1);
            odds(x, 0, 5, 1, 1);
        });
    }

    private static void worn() {
        says("Terms 3", "WORN: a row tells PAINT of one behind each of the next n NIGHTS (1 .. 8)", () -> {
            BathRim x = told("0+0^1;p9@0");
            row(x, 0, 0, 8, 7, 6, 5, 4, 3, 2, 1, 0);
            row(x, 1, 0, 8, 7, 6, 5, 4, 3, 2, 2, 0);
            bounds("worn(0, 0, 0, 0, v, 0)", 1, 8, v -> x.worn(0, 0, 0, 0, v, 0));
            due("8 as they come", x.worn(0, 0, 0, 0, 8, 0), 31);
            due("the eighth is another", x.worn(0, 1, 0, 0, 8, 0), 0);
            due("7 of them", x.worn(0, 1, 0, 0, 7, 0), 31);
            due("not behind the first", x.worn(0, 0, 0, 1, 1, 0), 0);
        });
        says("Terms 3", "KINDS (a set) of him by which it would be so", () -> {
            BathRim x = told("0+0^5;l9@0,p4");
            row(x, 0, 2, 8, 7, 6, 5, 4);
            // plain has 11 .. 7 by 5, so have the general and the veteran; the lame one and the drummer fall in the third
            due("whatever his own is", x.worn(0, 0, 2, 0, 5, 0), 1 + 4 + 16);
            due("two nights", x.worn(0, 0, 2, 0, 2, 0), 31);
            row(x, 1, 2, 4);
            due("one who is FALLEN may be of any", x.worn(1, 1, 2, 0, 1, 0), 31);
            due("none", x.worn(0, 1, 2, 0, 1, 0), 0);
        });
        says("Terms 3", "PAINT (0 .. 9, a set) he might have now", () -> {
            BathRim x = told("0+0^0;p5@0");
            row(x, 0, 3, 0, 9, -1, 10, 5);
            due("0", x.worn(0, 0, 3, 0, 1, 1), 1);
            due("9", x.worn(0, 0, 3, 1, 1, 1), 512);
            due("below", x.worn(0, 0, 3, 2, 1, 1), 0);
            due("above", x.worn(0, 0, 3, 3, 1, 1), 0);
            x.rule(2, 3);
            due("0 falls with 0, 1 has 0 then", x.worn(0, 0, 3, 0, 1, 1), 3);
        });
        says("Terms 3", "HEIGHTS (0 .. 12, a set)", () -> {
            BathRim x = told("0+0^5;p9@0,p4");
            row(x, 0, 1, 9, 8, 4, 7);
            due("0 leaves him, 12 fells him", x.worn(0, 0, 1, 0, 1, 2), 1 + 4096);
            due("1 to 11", x.worn(0, 0, 1, 1, 1, 2), 4094);
            due("one who is FALLEN tells nothing", x.worn(1, 0, 1, 2, 1, 2), 8191);
            due("none", x.worn(0, 0, 1, 3, 1, 2), 0);
        });
    }

    private static void undone() {
        says("Terms 3", "UNDONE: the latest NIGHT, MARCHED, PUT, PAINTED is as it had not been", () -> {
            Step[] all = {x -> x.nights(1), x -> x.march(0, 9), x -> x.put(1, 0), x -> x.paint(0, 3), x -> x.drift(1)};
            for (int k = 0; k < all.length; k++) {
                BathRim x = few();
                String before = stateOf(x);
                all[k].on(x);
                due("step " + k + " may be undone", x.count(9), 2);
                due("step " + k + " undone", x.undo(), 1);
                same("step " + k + " undone", stateOf(x), before);
            }
        });
        says("Terms 3", "(8 are known, older ones lost)", () -> {
            for (int steps = 7; steps <= 11; steps++) {
                BathRim x = told("0+0^0;p0@0");
                for (int inch = 1; inch <= steps; inch++) {
                    x.march(0, inch);
                    due("known", x.count(9), Math.min(inch, 8));
                }
                int known = Math.min(steps, 8);
                for (int k = known - 1; k >= 0; k--) {
                    due("undo()", x.undo(), k);
                }
                due("none is known", x.undo(), NONE);
                due("where he was", x.of(0, 2), steps - known);
            }
        });
        says("Terms 3", "where all are, PAINT, the NIGHT, THE DRAW are as ahead of it, whatever was told since", () -> {
            BathRim x = told("5+0^4;p0@5,p9@6,p0@0");
            x.seed(77);
            String before = stateOf(x);
            x.drift(1);
            x.seed(5);
            x.rule(2, 12);
            x.undo();
            x.rule(2, 4);
            same("undo", stateOf(x), before);
            x.march(2, 1);
            x.seed(9);
            x.undo();
            same("undo of a march", stateOf(x), before);
            x.march(2, 1);
            x.rule(0, 3);
            x.undo();
            due("THE LAW is as told since", x.count(6), 3);
        });
        says("Terms 3", "a RIM told, a new man leave nothing to be UNDONE", () -> {
            BathRim x = few();
            tell(x, "0+0^0;p0@3");
            x.rim();
            due("behind a rim", x.count(9), 0);
            due("behind a rim", x.undo(), NONE);
            BathRim y = few();
            y.man(0, 0, 0);
            due("behind a new man", y.count(9), 0);
            due("behind a new man", y.undo(), NONE);
            BathRim z = few();
            z.rim();
            z.man(0, 0, 11);
            due("behind a fault, and one refused", z.undo(), 0);
        });
    }

    private static long next(long draw) {
        return (draw * 1103515245L + 12345L) & 0x7fffffffL;
    }

    /** A draw behind which the next one is this: the factor is odd, so it has an inverse by 31 bits. */
    private static int drawAhead(long draw) {
        long inverse = 1;
        for (int k = 0; k < 6; k++) {
            inverse *= 2 - 1103515245L * inverse;
        }
        return (int) ((draw - 12345L) * inverse & 0x7fffffffL);
    }

    private static void drift() {
        says("Terms 3", "THE DRAW is a number of 31 bits (1 at first)", () -> {
            BathRim x = new BathRim();
            due("at first", x.seed(HIGH), 1);
            due("all 31 bits", x.seed(0), HIGH);
            due("none", x.seed(1), 0);
        });
        says("Terms 3", "it becomes the lowest 31 bits of itself times 1103515245 and 12345 more", () -> {
            for (int draw : new int[] {0, 1, 2, 1103527590, HIGH, HIGH - 1, 1 << 30}) {
                BathRim x = new BathRim();
                x.seed(draw);
                x.drift(1);
                due("behind " + draw, x.seed(0), next(draw));
            }
            BathRim y = new BathRim();
            y.nights(1);
            due("not in nights of no drift", y.seed(1), 1);
            y.drift(2);
            due("ahead of each night", y.seed(1), next(next(1)));
        });
        says("Terms 3", "the man that is it by 65536, left over by how many there are, if he stands", () -> {
            // 1103527590 by 65536 is 16838; by 128 is 8621309, left over by 12 is 5
            String men = "";
            for (int many = 1; many <= 6; many++) {
                men += (many == 1 ? ";" : ",") + "p0@" + (many == 6 ? 11 : many - 1);
                BathRim x = told("0+0^0" + men);
                x.drift(1);
                due("of " + many, x.at(5, 0), 16838 % many);
            }
            for (int whole : new int[] {1, 2, 5, 6, 7, 12345, 32767}) {
                for (int less = 0; less < 2; less++) {
                    long draw = whole * 65536L - less;
                    int inch = (int) (draw / 128 % 12);
                    BathRim x = new BathRim();
                    for (int m = 0; m < 6; m++) {
                        x.man(0, 9, (inch + 1 + m) % 12);
                    }
                    x.seed(drawAhead(draw));
                    x.drift(1);
                    due("by " + draw, x.at(inch, 0), (whole - less) % 6);
                }
            }
            BathRim y = told("0+0^0;p0,p0@1");
            y.drift(1);
            due("who is FALLEN does not march", y.count(4), 2);
        });
        says("Terms 3", "MARCHES to the INCH that is it by 128, left over by 12, if nobody is there", () -> {
            BathRim x = told("0+0^0;p0@0");
            long draw = 1;
            for (int n = 1; n <= 30; n++) {
                draw = next(draw);
                x.drift(1);
                due("in drift " + n, x.of(0, 2), draw / 128 % 12);
            }
            for (int whole : new int[] {1, 2, 11, 12, 13, 24, 16777215}) {
                x.seed(drawAhead(whole * 128L));
                x.drift(1);
                due("by " + whole + " times 128", x.of(0, 2), whole % 12);
                x.seed(drawAhead(whole * 128L - 1));
                x.drift(1);
                due("by 1 less", x.of(0, 2), (whole - 1) % 12);
            }
            BathRim y = told("0+0^0;p0@2,p0@5,p0@1");
            y.drift(1);
            due("man 1 is there", y.of(2, 2), 1);
            due("man 1 stays", y.of(1, 2), 5);
            BathRim z = told("0+0^0;p0@2,p0,p0@1");
            z.drift(1);
            due("nobody is there", z.of(2, 2), 5);
            due("the march is ahead of the night", told("5+0^3;p0@0").drift(1), 0);
        });
        says("Terms 3", "(nobody without MEN)", () -> {
            BathRim x = new BathRim();
            due("drift(40)", x.drift(40), 0);
            due("nights", x.count(2), 40);
            due("men", x.count(0), 0);
        });
    }

    private static void rimTexts() {
        says("Terms 3", "a number 0 .. 11 (SOURCE)", () -> {
            due("0", told("0+5^6").count(6), 0);
            due("11", told("11+5^6").count(6), 11);
            due("12", answerTo("12+5^6"), -20);
            due("none", answerTo("+5^6"), -20);
        });
        says("Terms 3", "+ and a number 0 .. 11 (STRIDE)", () -> {
            due("0", told("3+0^6").count(7), 0);
            due("11", told("3+11^6").count(7), 11);
            due("12", answerTo("3+12^6"), -22);
            due("none", answerTo("3+^6"), -22);
            due("no +", answerTo("3^6"), -21);
        });
        says("Terms 3", "^ and a number 0 .. 12 (HEIGHT)", () -> {
            due("0", told("3+4^0").count(8), 0);
            due("12", told("3+4^12").count(8), 12);
            due("13", answerTo("3+4^13"), -24);
            due("none", answerTo("3+4^;p0"), -24);
            due("no ^", answerTo("3+4;p0"), -23);
        });
        says("Terms 3", "then perhaps ; and 1 to 6 MEN with , between", () -> {
            due("no ;", answerTo("3+4^5"), 0);
            due("0", answerTo("3+4^5;"), -26);
            due("1", answerTo("3+4^5;p0"), 1);
            due("6", answerTo("3+4^5;p0,p0,p0,p0,p0,p0"), 6);
            due("7", answerTo("3+4^5;p0,p0,p0,p0,p0,p0,p0"), -43);
            due("no ,", answerTo("3+4^5;p0p0"), -28);
            due("a , behind the last", answerTo("3+4^5;p0,"), -29);
            due("a , in place of ;", answerTo("3+4^5,p0"), -25);
        });
        says("Terms 3", "p l g d v (PLAIN, LAME, GENERAL, DRUMMER, VETERAN)", () -> {
            for (int kind = 0; kind < 5; kind++) {
                due("kind", told("0+0^0;" + "plgdv".charAt(kind) + "0").of(0, 0), kind);
            }
            for (char c = 33; c < 127; c++) {
                due("letter " + c, answerTo("0+0^0;" + c + "0"), "plgdv".indexOf(c) >= 0 ? 1 : -26);
            }
        });
        says("Terms 3", "a digit (PAINT)", () -> {
            due("0", told("0+0^0;p0").of(0, 1), 0);
            due("9", told("0+0^0;p9").of(0, 1), 9);
            due("none", answerTo("0+0^0;p"), -27);
            due("none", answerTo("0+0^0;p@1"), -27);
            due("two", answerTo("0+0^0;p10"), -28);
            due("the sign ahead of 0", answerTo("0+0^0;p/"), -27);
            due("the sign behind 9", answerTo("0+0^0;p:"), -27);
        });
        says("Terms 3", "then perhaps @ and a number 0 .. 11 (his INCH, where none told before stands; else he is FALLEN)", () -> {
            due("0", told("0+0^0;p0@0").of(0, 2), 0);
            due("11", told("0+0^0;p0@11").of(0, 2), 11);
            due("12", answerTo("0+0^0;p0@12"), -29);
            due("none", answerTo("0+0^0;p0@"), -29);
            due("where one told before stands", answerTo("0+0^0;p0@11,p0@1,p0@11"), -20 - 20);
            due("where nobody stands", answerTo("0+0^0;p0,p0@0"), 2);
            due("without @", told("0+0^0;p0,p0@0").of(0, 2), NONE);
        });
        says("Terms 3", "in place of all; NIGHT 0 (THE DRAW stays)", () -> {
            BathRim x = rich();
            x.rim();
            x.seed(31);
            tell(x, "1+2^3;l4@5");
            due("rim()", x.rim(), 1);
            same("rim()", stateOf(x), "1 1 0 1 32 4 1 2 3 0 1:4@5 31");
            tell(x, "0+0^0");
            due("nobody", x.rim(), 0);
            same("nobody", stateOf(x), "0 0 0 0 0 0 0 0 0 0 31");
        });
    }

    private static void rimFaults() {
        says("Terms 3", "Numbers have 1 or 2 digits (a third one can't stand there)", () -> {
            due("1 and 2", told("9+09^7").count(7), 9);
            due("two zeros", told("00+00^00").count(8), 0);
            due("a third of SOURCE", answerTo("011+0^0"), -22);
            due("a third of STRIDE", answerTo("0+000^0"), -24);
            due("a third of HEIGHT", answerTo("0+0^012"), -26);
            due("a third of an INCH", answerTo("0+0^0;p0@011"), -31);
        });
        says("Terms 3", "FAULTS: -20 less the place of the first letter (behind blanks) that can't stand there", () -> {
            due("the first", answerTo("x"), -20);
            due("behind blanks", answerTo("  x"), -22);
            due("behind a good part", answerTo("0+x^x"), -22);
            due("behind a whole rim", answerTo("0+0^0 +"), -26);
            due("behind blanks in a man", answerTo("0+0^0;p  x"), -29);
            due("at the 60th place", answerTo("0+0^0;p1@1" + " ".repeat(49) + "x"), -79);
        });
        says("Terms 3", "or of the number's first digit, if it is not as told", () -> {
            due("SOURCE", answerTo("12"), -20);
            due("SOURCE behind blanks", answerTo("  99+0^0"), -22);
            due("STRIDE", answerTo("0+12x"), -22);
            due("STRIDE behind blanks", answerTo("0+ 12"), -23);
            due("HEIGHT", answerTo("0+0^13;"), -24);
            due("INCH", answerTo("0+0^0;p0@ 12"), -30);
            due("INCH where one stands", answerTo("0+0^0;p0@1,p0@ 01"), -35);
        });
        says("Terms 3", "(the end: how many there are)", () -> {
            String[] cut = {"", "0", "0+", "0+0", "0+0^", "0+0^0;", "0+0^0;p", "0+0^0;p0@", "0+0^0;p0,", "0+0^0;p0@11,", "   ",
                "0+ "};
            for (String text : cut) {
                due("\"" + text + "\"", answerTo(text), -20 - text.length());
            }
            due("60 letters", answerTo("0+" + " ".repeat(58)), -80);
            due("60 letters", answerTo("0" + " ".repeat(59)), -80);
            due("60 letters", answerTo("0+0^0;" + " ".repeat(54)), -80);
            BathRim x = new BathRim();
            for (String text : cut) {
                tell(x, "0+0^0;p0@11,l1@10,g2@9");
                x.rim();
                tell(x, text);
                due("\"" + text + "\" on a tape that was longer", x.rim(), -20 - text.length());
            }
        });
        says("Terms 3", "blanks count for nothing, but end a number", () -> {
            due("anywhere between", answerTo("  11 + 7 ^ 9 ; v 9 @ 11 , d 0 "), 2);
            due("in SOURCE", answerTo("1 1+0^0"), -22);
            due("in STRIDE", answerTo("0+1 1^0"), -24);
            due("in HEIGHT", answerTo("0+0^1 2"), -26);
            due("in an INCH", answerTo("0+0^0;p0@1 1"), -31);
            due("behind a number", told("1 +2 ^3 ").count(6), 1);
        });
    }

    private static void sheets() {
        says("interface", "sheets 0 .. 3: nothing (at first)", () -> {
            for (int sheet = 0; sheet < 4; sheet++) {
                due("sheet " + sheet, new BathRim().drop(sheet), NULL);
            }
            bounds("drop(v)", 0, 3, v -> new BathRim().drop(v));
        });
        says("interface", "or a row of a LANE: 0 bytes, 1 shorts, 2 ints, 3 longs", () -> {
            int[] bits = {8, 16, 32, 64};
            BathRim x = told("0+0^0;p0");
            for (int lane = 0; lane < 4; lane++) {
                x.sheet(lane, lane, 2);
                x.item(lane, lane, 0, 5 + (1L << bits[lane] - 1));
                due("the highest bit is kept", itemBy(x, 0, lane, lane, 0), -1);
                if (lane < 3) {
                    x.item(lane, lane, 1, 5 + (1L << bits[lane]));
                    due("one above it is not", itemBy(x, 0, lane, lane, 1), 5);
                }
            }
            bounds("sheet(0, v, 1)", 0, 3, v -> new BathRim().sheet(0, v, 1));
        });
        says("interface", "of 0 to 24 items", () -> {
            BathRim x = told("0+0^0;p0");
            due("none", x.sheet(0, 0, 0), 0);
            due("no first one", x.item(0, 0, 0, 1), INDEX);
            due("24", x.sheet(0, 0, 24), 24);
            due("the last", x.item(0, 0, 23, 1), 1);
            due("none behind it", x.item(0, 0, 24, 1), INDEX);
            due("25", x.sheet(0, 0, 25), BAD);
        });
    }

    private static void anObject() {
        says("What it is", "An object is used for at most 512 calls after it has been made", () -> {
            BathRim x = new BathRim();
            x.man(0, 9, 0);
            for (int call = 2; call < 512; call++) {
                due("call " + call, call % 2 == 0 ? x.march(0, 1) : x.undo(), 0);
            }
            due("the 512th call", x.of(0, 2), 0);
        });
    }
}
