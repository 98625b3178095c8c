/** The sentences of 'Promise 1' to 'Promise 36' that name a boundary, each with a test of its own. */
public final class CallsSentenceTest extends Sentences {
    public static void main(String[] args) {
        newObject();
        man();
        rule();
        of();
        atWaveHeld();
        type();
        rim();
        count();
        nights();
        march();
        put();
        paint();
        drift();
        undo();
        seed();
        aheadAndThen();
        fallsAndAlone();
        postAndSafe();
        change();
        coats();
        guardCalmSteam();
        image();
        restore();
        worn();
        wornItems();
        film();
        filmItems();
        sheet();
        drop();
        item();
        copy();
        copyRefused();
        end();
    }

    private static void newObject() {
        says("Promise 1", "A rim, nobody", () -> {
            BathRim x = new BathRim();
            same("a new object", stateOf(x), "0 0 0 0 0 0 0 1 5 0 1");
            for (int inch = 0; inch < 12; inch++) {
                due("who is at " + inch, x.at(inch, 0), NONE);
            }
            due("man 0", x.of(0, 0), BAD);
            due("held", x.held(5), 0);
            due("the tape is empty", x.type('0'), 1);
        });
    }

    private static void man() {
        says("Promise 2", "A man at an INCH: his number", () -> {
            BathRim x = new BathRim();
            due("the first, the least", x.man(0, 0, 0), 0);
            due("the second, the greatest", x.man(4, 9, 11), 1);
            same("both", stateOf(x), "2 2 0 3 2049 9 0 1 5 0 0:0@0 4:9@11 1");
        });
        says("Promise 2", "BAD", () -> {
            bounds("kind", 0, 4, v -> new BathRim().man(v, 0, 0));
            bounds("paint", 0, 9, v -> new BathRim().man(0, v, 0));
            bounds("inch", 0, 11, v -> new BathRim().man(0, 0, v));
        });
        says("Promise 2", "FULL: 6", () -> {
            BathRim x = told("0+0^0;p0@0,p0,p0,p0,p0");
            due("the sixth", x.man(0, 0, 5), 5);
            due("a seventh", x.man(0, 0, 6), FULL);
            due("though five are FALLEN", told("0+0^0;p0@0,p0,p0,p0,p0,p0").man(0, 0, 6), FULL);
        });
        says("Promise 2", "NOT: somebody stands there", () -> {
            BathRim x = told("0+0^12;p0@0,p0");
            due("where one stands", x.man(0, 0, 0), NOT);
            x.nights(1);
            due("where one fell", x.man(0, 0, 0), 2);
            due("where the new one stands", x.man(0, 0, 0), NOT);
        });
    }

    private static void rule() {
        says("Promise 3", "0 SOURCE, 1 STRIDE, 2 HEIGHT becomes v: what it was", () -> {
            BathRim x = told("3+4^5");
            due("SOURCE", x.rule(0, 11), 3);
            due("STRIDE", x.rule(1, 11), 4);
            due("HEIGHT", x.rule(2, 12), 5);
            due("SOURCE", x.rule(0, 0), 11);
            due("STRIDE", x.rule(1, 0), 11);
            due("HEIGHT", x.rule(2, 0), 12);
            due("as it is", x.rule(2, 0), 0);
        });
        says("Promise 3", "BAD", () -> {
            bounds("what", 0, 2, v -> new BathRim().rule(v, 0));
            bounds("SOURCE", 0, 11, v -> new BathRim().rule(0, v));
            bounds("STRIDE", 0, 11, v -> new BathRim().rule(1, v));
            bounds("HEIGHT", 0, 12, v -> new BathRim().rule(2, v));
        });
    }

    private static void of() {
        says("Promise 4", "2 his INCH (NONE: FALLEN)", () -> {
            BathRim x = told("0+0^12;p0@0,p9@11,p0");
            x.nights(1);
            due("one who fell", x.of(0, 2), NONE);
            due("one who stands", x.of(1, 2), 11);
            due("one told so", x.of(2, 2), NONE);
        });
        says("Promise 4", "3 GRIP (0: FALLEN)", () -> {
            BathRim x = told("0+0^0;p9,l9,g9,d9,v9,v0@0");
            x.nights(1);
            for (int m = 0; m < 5; m++) {
                due("of kind " + m, x.of(m, 3), 0);
            }
            due("one who stands", x.of(5, 3), 7);
        });
        says("Promise 4", "4 who stands next to him (a set)", () -> {
            BathRim x = told("0+0^0;p0@0,p0@1,p0@2,p0@4,p0@11,p0");
            int[] sets = {2, 5, 2, 0, 0, 0};
            for (int m = 0; m < 6; m++) {
                due("next to " + m, x.of(m, 4), sets[m]);
            }
        });
        says("Promise 4", "BAD", () -> {
            bounds("man", 0, 2, v -> few().of(v, 0));
            bounds("what", 0, 4, v -> few().of(0, v));
            due("without men", new BathRim().of(0, 0), BAD);
        });
    }

    private static void atWaveHeld() {
        says("Promise 5", "0 who stands there (NONE)", () -> {
            BathRim x = few();
            due("one", x.at(3, 0), 0);
            due("one at the end", x.at(11, 0), 2);
            due("nobody", x.at(0, 0), NONE);
            due("nobody's rim", new BathRim().at(0, 0), NONE);
        });
        says("Promise 5", "1 how HIGH the WAVE is there in this NIGHT", () -> {
            BathRim x = told("11+1^2");
            due("night 0", x.at(11, 1), 2);
            due("night 0", x.at(0, 1), 0);
            x.nights(1);
            due("night 1", x.at(0, 1), 2);
            due("night 1", x.at(11, 1), 0);
        });
        says("Promise 5", "BAD", () -> {
            bounds("inch", 0, 11, v -> few().at(v, 1));
            bounds("what", 0, 1, v -> few().at(0, v));
        });
        says("Promise 6", "n NIGHTS (0 .. 60) on", () -> {
            BathRim x = told("0+1^1");
            x.nights(1);
            due("none on", x.wave(1, 0), 1);
            due("60 on, in night 61", x.wave(1, 60), 1);
            due("59 on", x.wave(0, 59), 1);
            BathRim last = late("0+1^1", 0);
            due("60 on behind the last night", last.wave(10059 % 12, 60), 1);
        });
        says("Promise 6", "BAD", () -> {
            bounds("inch", 0, 11, v -> few().wave(v, 0));
            bounds("n", 0, 60, v -> few().wave(0, v));
        });
        says("Promise 7", "HELD by r (a set)", () -> {
            BathRim x = told("0+0^0;p0@0,p0@11,p0");
            int[] held = {0x801, 0xc03, 0xe07, 0xf0f, 0xf9f, 0xfff};
            for (int r = 0; r <= 5; r++) {
                due("held(" + r + ")", x.held(r), held[r]);
            }
            due("nobody stands", told("0+0^0;p0").held(5), 0);
        });
        says("Promise 7", "BAD", () -> bounds("r", 0, 5, v -> few().held(v)));
    }

    private static void type() {
        says("Promise 8", "One letter more behind THE TAPE: how many it has", () -> {
            BathRim x = new BathRim();
            due("the first", x.type('3'), 1);
            due("the second, behind it", x.type('+'), 2);
            tell(x, "4^5");
            due("the sixth", x.type(' '), 6);
            due("as they came", x.rim(), 0);
            due("as they came", x.count(7), 4);
        });
        says("Promise 8", "BAD: not 32 .. 126", () -> {
            bounds("letter", 32, 126, v -> new BathRim().type(v));
            due("48 and 65536", new BathRim().type(48 + 65536), BAD);
            due("48 and 256", new BathRim().type(48 + 256), BAD);
            due("0", new BathRim().type(0), BAD);
        });
        says("Promise 8", "FULL: 60", () -> {
            BathRim x = new BathRim();
            for (int k = 1; k <= 60; k++) {
                due("letter " + k, x.type(k == 60 ? 'x' : ' '), k);
            }
            due("a 61st", x.type('y'), FULL);
            due("the 60th is there", x.rim(), -20 - 59);
            due("room again", x.type('0'), 1);
        });
    }

    private static void rim() {
        says("Promise 9", "THE TAPE, which is empty then, is a RIM: how many MEN", () -> {
            BathRim x = new BathRim();
            for (String text : new String[] {"0+0^0", "1+2^3;p4", "1+2^3;p4@5,l6,g7,d8,v9,p0@11"}) {
                tell(x, text);
                due("rim() of " + text, x.rim(), text.split("[;,]").length - 1);
                due("the tape is empty", x.type(' '), 1);
            }
            due("an empty tape is no rim", new BathRim().rim(), -20);
        });
        says("Promise 9", "A FAULT (all else stays)", () -> {
            for (String fault : new String[] {"x", "12", "0+0^0;p9@3,p9@3", "0+0^0;p1@1,", "11+11^12;v9@0,v9@1,q"}) {
                BathRim x = rich();
                x.rim();
                BathRim twin = rich();
                twin.rim();
                tell(x, fault);
                due("a fault: 1", x.rim() <= -20 ? 1 : 0, 1);
                same("rim() of " + fault, allOf(x), allOf(twin));
            }
            BathRim y = few();
            tell(y, "9+9^9;q");
            due("rim()", y.rim(), -26);
            due("the tape is empty, too", y.type(' '), 1);
            due("what may be undone stays", y.undo(), 0);
        });
    }

    private static void count() {
        says("Promise 10", "0 MEN, 1 how many stand, 2 the NIGHT, 3 who stands (a set), 4 INCHES where somebody stands (a set)", () -> {
            BathRim x = told("0+0^0;p9@0,p9@11,p9,p9@5");
            x.nights(2);
            int[] counts = {4, 3, 2, 11, 2081};
            int[] none = new int[5];
            for (int what = 0; what < 5; what++) {
                due("count(" + what + ")", x.count(what), counts[what]);
                due("count(" + what + ") of nobody", new BathRim().count(what), none[what]);
            }
        });
        says("Promise 10", "5 PAINT of all together", () -> {
            due("who is FALLEN counts", told("0+0^0;p9@0,p8").count(5), 17);
            due("54 at most", told("0+0^0;p9@0,p9,p9,p9,p9,p9").count(5), 54);
            due("nobody's", new BathRim().count(5), 0);
        });
        says("Promise 10", "6 to 8 SOURCE, STRIDE, HEIGHT", () -> {
            BathRim x = told("11+10^12");
            due("SOURCE", x.count(6), 11);
            due("STRIDE", x.count(7), 10);
            due("HEIGHT", x.count(8), 12);
        });
        says("Promise 10", "9 what may be UNDONE", () -> {
            BathRim x = told("0+0^0;p0@0");
            due("nothing", x.count(9), 0);
            x.nights(7);
            due("7", x.count(9), 7);
            x.nights(2);
            due("8 at most", x.count(9), 8);
            x.undo();
            due("one less", x.count(9), 7);
        });
        says("Promise 10", "BAD", () -> bounds("what", 0, 9, v -> new BathRim().count(v)));
    }

    private static void nights() {
        says("Promise 11", "n NIGHTS (1 .. 40; each by itself may be UNDONE): who stands then (a set)", () -> {
            BathRim x = told("5+0^3;p0@5,p9@6,p1@4");
            // men 0 falls in the first; man 2 has 3, 2, 2 by 2
            due("nights(1)", x.nights(1), 6);
            due("one may be undone", x.count(9), 1);
            BathRim y = told("0+0^0;p0@0");
            due("nights(40)", y.nights(40), 1);
            due("the night", y.count(2), 40);
            for (int k = 7; k >= 0; k--) {
                due("undo()", y.undo(), k);
                due("the night", y.count(2), 32 + k);
            }
        });
        says("Promise 11", "BAD", () -> bounds("n", 1, 40, v -> few().nights(v)));
        says("Promise 11", "FULL: the NIGHT would be above 9999", () -> {
            BathRim x = late("0+0^0;p0@0", 2);
            due("night", x.count(2), 9997);
            due("10000", x.nights(3), FULL);
            due("10037", x.nights(40), FULL);
            due("9999", x.nights(2), 1);
            due("night", x.count(2), 9999);
            due("10000", x.nights(1), FULL);
            due("undone", x.undo(), 7);
            due("9999", x.nights(1), 1);
        });
    }

    private static void march() {
        says("Promise 12", "MARCHED: the INCH where he was", () -> {
            BathRim x = told("0+0^0;p0@11");
            due("from 11 to 0", x.march(0, 0), 11);
            due("from 0 to 11", x.march(0, 11), 0);
            due("two may be undone", x.count(9), 2);
            due("no night has passed", x.count(2), 0);
        });
        says("Promise 12", "BAD", () -> {
            bounds("man", 0, 2, v -> few().march(v, 0));
            bounds("inch", 0, 11, v -> few().march(0, v));
            due("without men", new BathRim().march(0, 0), BAD);
        });
        says("Promise 12", "NOT: he is FALLEN, somebody (himself, too) is there", () -> {
            due("he is FALLEN", few().march(1, 0), NOT);
            due("somebody is there", few().march(0, 11), NOT);
            due("he himself is there", few().march(0, 3), NOT);
        });
    }

    private static void put() {
        says("Promise 13", "PUT back: how many stand then", () -> {
            BathRim x = told("0+0^0;p0,p7,p0,p0,p0,p0");
            for (int m = 0; m < 6; m++) {
                due("man " + m, x.put(m, 11 - m), m + 1);
            }
            due("his paint stays", x.of(1, 1), 7);
            due("six may be undone", x.count(9), 6);
        });
        says("Promise 13", "BAD", () -> {
            bounds("man", 0, 2, v -> few().put(v, 0));
            bounds("inch", 0, 11, v -> few().put(1, v));
            due("without men", new BathRim().put(0, 0), BAD);
        });
        says("Promise 13", "NOT: he stands, somebody is there", () -> {
            due("he stands", few().put(0, 5), NOT);
            due("he stands there", few().put(0, 3), NOT);
            due("somebody is there", few().put(1, 11), NOT);
        });
    }

    private static void paint() {
        says("Promise 14", "PAINTED by n (1 .. 9): PAINT then", () -> {
            BathRim x = told("0+0^0;p0@0,p0,p8");
            due("by 1", x.paint(0, 1), 1);
            due("by 9", x.paint(1, 9), 9);
            due("by 9, 9 at most", x.paint(2, 9), 9);
            due("three may be undone", x.count(9), 3);
        });
        says("Promise 14", "BAD", () -> {
            bounds("man", 0, 2, v -> few().paint(v, 1));
            bounds("n", 1, 9, v -> few().paint(0, v));
            due("without men", new BathRim().paint(0, 1), BAD);
        });
        says("Promise 14", "NOT: he has 9", () -> {
            due("who stands", few().paint(2, 1), NOT);
            due("who is FALLEN", few().paint(1, 1), NOT);
            due("he has 8", told("0+0^0;p8").paint(0, 1), 9);
        });
    }

    private static void drift() {
        says("Promise 15", "A DRIFT of n NIGHTS (1 .. 40; each with its march one that may be UNDONE): who stands then (a set)", () -> {
            BathRim x = told("0+0^0;p0@0,p0");
            String before = stateOf(x);
            due("drift(1)", x.drift(1), 1);
            due("one may be undone", x.count(9), 1);
            due("undo()", x.undo(), 0);
            same("march and night undone at once", stateOf(x), before);
            due("drift(40)", x.drift(40), 1);
            due("the night", x.count(2), 40);
            due("8 may be undone", x.undo(), 7);
            due("the night", x.count(2), 39);
        });
        says("Promise 15", "BAD", () -> bounds("n", 1, 40, v -> few().drift(v)));
        says("Promise 15", "FULL: likewise", () -> {
            BathRim x = late("0+0^0;p0@0", 2);
            due("10000", x.drift(3), FULL);
            due("THE DRAW is as it was", x.seed(1), 1);
            due("9999", x.drift(2), 1);
            due("night", x.count(2), 9999);
            due("10000", x.drift(1), FULL);
        });
    }

    private static void undo() {
        says("Promise 16", "UNDONE: how many more may be", () -> {
            BathRim x = told("0+0^0;p0@0");
            x.nights(10);
            for (int k = 7; k >= 0; k--) {
                due("undo()", x.undo(), k);
            }
            x.march(0, 5);
            due("the latest", x.undo(), 0);
            due("the night stays", x.count(2), 2);
        });
        says("Promise 16", "NONE: none is known", () -> {
            due("a new object", new BathRim().undo(), NONE);
            BathRim x = few();
            due("the only one", x.undo(), 0);
            due("no other", x.undo(), NONE);
            due("and still none", x.undo(), NONE);
        });
    }

    private static void seed() {
        says("Promise 17", "THE DRAW becomes v: what it was", () -> {
            BathRim x = new BathRim();
            due("seed(0)", x.seed(0), 1);
            due("the greatest", x.seed(HIGH), 0);
            due("seed(0)", x.seed(0), HIGH);
            due("nothing to be undone", x.count(9), 0);
        });
        says("Promise 17", "BAD: below 0", () -> {
            BathRim x = new BathRim();
            due("-1", x.seed(-1), BAD);
            due("the least", x.seed(LOW), BAD);
            due("THE DRAW stays", x.seed(0), 1);
        });
    }

    private static void aheadAndThen() {
        says("Promise 18", "Behind n NIGHTS: 0 the INCH of one (NONE), 1 PAINT", () -> {
            BathRim x = told("0+0^3;p1@0,p9@11,p4");
            due("none", x.ahead(0, 0, 0), 0);
            due("none", x.ahead(0, 0, 1), 1);
            due("1", x.ahead(0, 1, 0), 0);
            due("1", x.ahead(0, 1, 1), 0);
            due("2: he falls", x.ahead(0, 2, 0), NONE);
            due("60", x.ahead(1, 60, 0), 11);
            due("60", x.ahead(1, 60, 1), 9);
            due("one who is FALLEN", x.ahead(2, 0, 0), NONE);
            due("one who is FALLEN", x.ahead(2, 60, 1), 4);
            BathRim last = late("0+0^0;p3@0", 0);
            due("behind the last night", last.ahead(0, 60, 1), 3);
        });
        says("Promise 18", "BAD", () -> {
            bounds("man", 0, 2, v -> few().ahead(v, 0, 1));
            bounds("n", 0, 60, v -> few().ahead(0, v, 1));
            bounds("what", 0, 1, v -> few().ahead(0, 0, v));
            due("without men", new BathRim().ahead(0, 0, 0), BAD);
        });
        says("Promise 19", "Who stands behind n NIGHTS (a set)", () -> {
            BathRim x = told("0+0^3;p1@0,p9@11,p4");
            due("none", x.then(0), 3);
            due("1", x.then(1), 3);
            due("2", x.then(2), 2);
            due("60", x.then(60), 2);
            due("nobody", new BathRim().then(60), 0);
        });
        says("Promise 19", "BAD", () -> bounds("n", 0, 60, v -> few().then(v)));
    }

    private static void fallsAndAlone() {
        says("Promise 20", "FALLS; NONE", () -> {
            BathRim x = told("0+0^3;p1@0,p9@11,p4");
            due("behind 2", x.falls(0), 2);
            due("none", x.falls(1), NONE);
            due("he is FALLEN", x.falls(2), 0);
        });
        says("Promise 20", "BAD", () -> {
            bounds("man", 0, 2, v -> few().falls(v));
            due("without men", new BathRim().falls(0), BAD);
        });
        says("Promise 21", "ALONE; NONE", () -> {
            due("nobody", new BathRim().alone(), 0);
            due("behind 2", told("0+0^3;p1@0,p9@11").alone(), 2);
            due("none", told("0+0^3;p1@0,p9@11,p9@10").alone(), NONE);
        });
    }

    private static void postAndSafe() {
        says("Promise 22", "POST: the INCH (what 0), how many (1)", () -> {
            BathRim x = told("11+0^12;p0@11,p9@10");
            // at 0 it is 1 high, at 1 it is 2 high
            due("the INCH", x.post(0, 1, 0), 0);
            due("how many", x.post(0, 1, 1), 2);
            due("where he is", told("0+0^5;p9@0").post(0, 1, 0), 0);
            due("at the end", told("0+0^12;p0@0,p9@9").post(0, 1, 0), 10);
        });
        says("Promise 22", "BAD", () -> {
            bounds("man", 0, 2, v -> few().post(v, 1, 0));
            bounds("n", 1, 40, v -> few().post(0, v, 0));
            bounds("what", 0, 1, v -> few().post(0, 1, v));
            due("without men", new BathRim().post(0, 1, 0), BAD);
        });
        says("Promise 23", "SAFE (a set)", () -> {
            due("0 and 1", told("11+0^12;p0@11").safe(0, 1), 3);
            due("10 and 11", told("0+0^12;p0@0").safe(0, 1), 3072);
            due("not where another stands", told("0+0^12;p0@0,p0@10").safe(0, 1), 2048);
        });
        says("Promise 23", "BAD", () -> {
            bounds("man", 0, 2, v -> few().safe(v, 1));
            bounds("n", 1, 40, v -> few().safe(0, v));
            due("without men", new BathRim().safe(0, 1), BAD);
        });
    }

    private static void change() {
        says("Promise 24", "CHANGE: the two (what 0), how many (1); NONE", () -> {
            BathRim x = told("0+0^5;p0,p0@0,p0@10,p9@11");
            due("the two", x.change(1, 0), 13);
            due("how many", x.change(1, 1), 3);
            for (int what = 0; what < 2; what++) {
                due("one stands", told("0+0^0;p0,p0@0").change(40, what), NONE);
                due("nobody stands", told("0+0^0;p0,p0").change(1, what), NONE);
            }
        });
        says("Promise 24", "BAD", () -> {
            bounds("n", 1, 40, v -> few().change(v, 0));
            bounds("what", 0, 1, v -> few().change(1, v));
            due("where no two stand", new BathRim().change(0, 0), BAD);
            due("where no two stand", new BathRim().change(1, 2), BAD);
        });
    }

    private static void coats() {
        says("Promise 25", "COATS: how many stand (i -1), PAINT (i -2), the coats of man i (NONE: no such one)", () -> {
            BathRim x = told("0+0^5;p1@0,p0@11,p0");
            // 2 make a grip of 5; a third is on him, too, or on man 1: man 0 has 2 then, man 1 has 1; the first is (2, 1)
            int[] all = {3, 2, 2, 1, 0, NONE, NONE};
            for (int i = -2; i <= 4; i++) {
                due("i " + i, x.coats(3, 1, i), all[i + 2]);
            }
            due("far above", x.coats(3, 1, HIGH), NONE);
            BathRim six = told("0+0^0;p9@0,p9@1,p9@2,p9@3,p9@4,p0@5");
            due("the sixth", six.coats(8, 1, 5), 8);
            due("no seventh", six.coats(8, 1, 6), NONE);
        });
        says("Promise 25", "NONE. BAD: i below -2", () -> {
            due("nobody", new BathRim().coats(8, 30, -1), NONE);
            due("nobody", new BathRim().coats(8, 30, -2), NONE);
            due("nobody", new BathRim().coats(8, 30, 0), NONE);
            for (BathRim x : new BathRim[] {few(), new BathRim()}) {
                due("-3", x.coats(0, 1, -3), BAD);
                due("the least", x.coats(0, 1, LOW), BAD);
                for (int i : new int[] {-2, -1, 0, 6}) {
                    for (int v : new int[] {LOW, -1, 9, HIGH}) {
                        due("k " + v, x.coats(v, 1, i), BAD);
                    }
                    for (int v : new int[] {LOW, -1, 0, 31, HIGH}) {
                        due("n " + v, x.coats(0, v, i), BAD);
                    }
                }
            }
        });
    }

    private static void guardCalmSteam() {
        says("Promise 26", "GUARD: how many (what 0), which (1)", () -> {
            BathRim x = told("0+0^0;p0,p0@5,p0@4,p0@6");
            due("by 0: all", x.guard(0, 0), 3);
            due("by 0: all", x.guard(0, 1), 14);
            due("by 5: 0 .. 11 by 5 and 6", x.guard(5, 0), 2);
            due("by 5: 0 .. 11 by 5 and 6", x.guard(5, 1), 10);
            due("nobody", new BathRim().guard(0, 0), 0);
            due("nobody", new BathRim().guard(0, 1), 0);
        });
        says("Promise 26", "BAD", () -> {
            bounds("r", 0, 5, v -> few().guard(v, 0));
            bounds("what", 0, 1, v -> few().guard(0, v));
        });
        says("Promise 27", "CALM", () -> {
            due("nobody", new BathRim().calm(1), 12);
            due("1 high stands always", told("0+1^0;l0@0").calm(40), 1);
            due("11", told("0+0^0;p9@0").calm(1), 11);
            due("12", told("0+0^0;p9@1").calm(1), 12);
        });
        says("Promise 27", "BAD", () -> bounds("n", 1, 40, v -> few().calm(v)));
        says("Promise 28", "STEAM: above (what 0), below (1)", () -> {
            BathRim x = told("0+0^5;p9@0");
            due("3 of 10", x.steam(1, 7, 0), 3);
            due("3 of 10", x.steam(1, 7, 1), 10);
            due("never", x.steam(2, 7, 0), 0);
            due("never", x.steam(2, 7, 1), 1);
            due("ever", x.steam(0, 7, 0), 1);
            due("ever", x.steam(0, 7, 1), 1);
        });
        says("Promise 28", "BAD", () -> {
            bounds("m", 0, 6, v -> few().steam(v, 0, 0));
            bounds("c", 0, 10, v -> few().steam(0, v, 0));
            bounds("what", 0, 1, v -> few().steam(0, 0, v));
        });
    }

    private static void image() {
        says("Promise 29", "All but SHEETS, THE TAPE is kept as an IMAGE: 1", () -> {
            BathRim x = rich();
            due("image()", x.image(), 1);
            String kept = stateOf(x);
            x.item(0, 0, 0, 9);
            x.drop(1);
            x.type(' ');
            x.nights(9);
            x.rule(0, 1);
            x.rule(1, 1);
            x.rule(2, 1);
            x.seed(2);
            x.restore();
            same("the rim", stateOf(x), kept);
            due("the tape is as it was left", x.type(' '), 12);
            due("so is a sheet dropped", x.drop(1), NULL);
            due("so is an item", itemBy(x, 5, 0, 0, 0), 9);
            BathRim twin = rich();
            leavesAll("image", () -> imaged(rich()), BathRim::image);
            due("a twin's is another", twin.restore(), 1);
        });
    }

    private static BathRim imaged(BathRim x) {
        x.image();
        return x;
    }

    private static void restore() {
        says("Promise 30", "All is as it was then: 1", () -> {
            BathRim x = rich();
            x.image();
            x.drift(9);
            x.rim();
            tell(x, "1+2^3;l4@5");
            x.rim();
            due("behind nights and a rim", x.restore(), 1);
            due("again", x.restore(), 1);
            x.nights(1);
            due("and again", x.restore(), 1);
            BathRim twin = rich();
            twin.image();
            twin.rim();
            twin.restore();
            same("what may be undone, too", allOf(x), allOf(twin));
            BathRim y = new BathRim();
            y.image();
            y.man(0, 0, 0);
            due("an image of nobody", y.restore(), 1);
            due("nobody", y.count(0), 0);
            due("no man 0", y.of(0, 0), BAD);
        });
        says("Promise 30", "NONE: there is none", () -> {
            BathRim x = few();
            due("none", x.restore(), NONE);
            due("all stays", x.count(0), 3);
            x.image();
            due("there is one", x.restore(), 1);
        });
    }

    private static void worn() {
        says("Promise 31", "KINDS (what 0), PAINT (1), HEIGHTS (2)", () -> {
            BathRim x = told("0+0^3;l1@0");
            row(x, 0, 0, 0);
            // with 1: plain 3 by 3, general, veteran lose it; the lame one and the drummer (1 by 3) fall with 1
            due("KINDS", x.worn(0, 0, 0, 0, 1, 0), 1 + 4 + 16);
            due("PAINT of a lame one: he falls with 0", x.worn(0, 0, 0, 0, 1, 1), 1);
            due("HEIGHTS: 1 leaves him standing", x.worn(0, 0, 0, 0, 1, 2), 2);
        });
        says("Promise 31", "BAD", () -> {
            bounds("man", 0, 5, v -> rich().worn(v, 0, 0, 0, 1, 0));
            bounds("sheet", 0, 3, v -> rich().worn(0, v, 0, 0, 1, 0));
            bounds("lane", 0, 3, v -> rich().worn(0, 0, v, 0, 1, 0));
            bounds("n", 1, 8, v -> rich().worn(0, 0, 0, 0, v, 0));
            bounds("what", 0, 2, v -> rich().worn(0, 0, 0, 0, 1, v));
            due("without men", new BathRim().worn(0, 0, 0, 0, 1, 0), BAD);
        });
    }

    private static void wornItems() {
        says("Promise 31", "by n items of a SHEET taken as a row of a LANE, from item i on", () -> {
            BathRim x = told("0+0^1;p9@0");
            row(x, 0, 1, 1, 2, 8, 7, 6);
            due("the last three", x.worn(0, 0, 1, 2, 3, 1), 512);
            due("from the last on", x.worn(0, 0, 1, 4, 1, 1), 128);
            due("from the first on", x.worn(0, 0, 1, 0, 1, 1), 4);
            due("no paint is followed by more", x.worn(0, 0, 1, 0, 2, 1), 0);
        });
        says("Promise 31", "BAD; NULL; CAST; INDEX", () -> {
            BathRim x = rich();
            due("nothing there", x.worn(0, 3, 0, 0, 1, 0), NULL);
            for (int lane = 1; lane < 4; lane++) {
                due("bytes as " + lane, x.worn(0, 0, lane, 0, 1, 0), CAST);
                due("longs as " + (lane - 1), x.worn(0, 1, lane - 1, 0, 1, 0), CAST);
            }
            for (int i : new int[] {LOW, -1, 3, HIGH}) {
                due("from " + i, x.worn(0, 0, 0, i, 1, 0), INDEX);
            }
            due("3 from 1 on", x.worn(0, 0, 0, 1, 3, 0), INDEX);
            due("8 from 0 on", x.worn(0, 0, 0, 0, 8, 0), INDEX);
            due("of no items", x.worn(0, 2, 2, 0, 1, 0), INDEX);
            due("far", x.worn(0, 0, 0, HIGH - 3, 8, 0), INDEX);
            due("2 from 1 on is no refusal: 1", x.worn(0, 0, 0, 1, 2, 0) >= 0 ? 1 : 0, 1);
        });
    }

    private static void film() {
        says("Promise 32", "PAINT of one behind 1, 2, .. n NIGHTS (1 .. 24), an item each", () -> {
            BathRim x = told("0+6^1;p9@0,p7");
            // touched in every second night
            x.sheet(0, 0, 24);
            due("24", x.film(0, 24, 0, 0, 0), 24);
            items(x, 1, 0, 0, 8, 8, 7, 7, 6, 6, 5, 5, 4, 4, 3, 3, 2, 2, 1, 1, 0, 0, 0, 0, 0, 0, 0, 0);
            x.sheet(1, 3, 1);
            due("1", x.film(0, 1, 1, 3, 0), 1);
            items(x, 1, 1, 3, 8);
            due("one who is FALLEN", x.film(1, 1, 1, 3, 0), 1);
            items(x, 1, 1, 3, 7);
        });
        says("Promise 32", "BAD", () -> {
            bounds("man", 0, 5, v -> rich().film(v, 1, 0, 0, 0));
            bounds("n", 1, 24, v -> rich().film(0, v, 0, 0, 0));
            bounds("sheet", 0, 3, v -> rich().film(0, 1, v, 0, 0));
            bounds("lane", 0, 3, v -> rich().film(0, 1, 0, v, 0));
            due("without men", new BathRim().film(0, 1, 0, 0, 0), BAD);
        });
    }

    private static void filmItems() {
        says("Promise 32", "comes to a SHEET likewise: n", () -> {
            BathRim x = told("0+0^1;p9@0,p0");
            row(x, 0, 2, 1, 1, 1, 1, 1);
            due("from 1 on", x.film(0, 3, 0, 2, 1), 3);
            items(x, 1, 0, 2, 1, 8, 7, 6, 1);
            due("the last", x.film(0, 1, 0, 2, 4), 1);
            items(x, 1, 0, 2, 1, 8, 7, 6, 8);
        });
        says("Promise 32", "BAD; NULL; CAST; INDEX", () -> {
            BathRim x = rich();
            due("nothing there", x.film(0, 1, 3, 0, 0), NULL);
            for (int lane = 1; lane < 4; lane++) {
                due("bytes as " + lane, x.film(0, 1, 0, lane, 0), CAST);
            }
            for (int i : new int[] {LOW, -1, 3, HIGH}) {
                due("from " + i, x.film(0, 1, 0, 0, i), INDEX);
            }
            due("3 from 1 on", x.film(0, 3, 0, 0, 1), INDEX);
            due("24 from far", x.film(0, 24, 0, 0, HIGH - 3), INDEX);
            due("of no items", x.film(0, 1, 2, 2, 0), INDEX);
            due("3 from 0 on", x.film(0, 3, 0, 0, 0), 3);
        });
    }

    private static void sheet() {
        says("Promise 33", "A SHEET holds a new row of a LANE: n", () -> {
            BathRim x = told("0+0^0;p0");
            for (int lane = 0; lane < 4; lane++) {
                due("of 3", x.sheet(3, lane, 3), 3);
                items(x, 0, 3, lane, 0, 0, 0);
                x.item(3, lane, 2, 9);
            }
            due("anew", x.sheet(3, 3, 4), 4);
            items(x, 0, 3, 3, 0, 0, 0, 0);
            due("none", x.sheet(3, 3, 0), 0);
            due("24", x.sheet(3, 3, 24), 24);
            due("others stay nothing", x.drop(0), NULL);
        });
        says("Promise 33", "BAD: also n above 24", () -> {
            bounds("sheet", 0, 3, v -> new BathRim().sheet(v, 0, 0));
            bounds("lane", 0, 3, v -> new BathRim().sheet(0, v, 0));
            due("25", new BathRim().sheet(0, 0, 25), BAD);
            due("the greatest", new BathRim().sheet(0, 0, HIGH), BAD);
            due("24", new BathRim().sheet(0, 0, 24), 24);
        });
        says("Promise 33", "SIZE: n below 0", () -> {
            BathRim x = rich();
            due("-1", x.sheet(3, 0, -1), SIZE);
            due("the least", x.sheet(3, 0, LOW), SIZE);
            due("it stays nothing", x.drop(3), NULL);
            due("0", x.sheet(3, 0, 0), 0);
        });
    }

    private static void drop() {
        says("Promise 34", "A SHEET holds nothing: how many items it had", () -> {
            BathRim x = rich();
            due("3", x.drop(0), 3);
            due("2", x.drop(1), 2);
            due("none", x.drop(2), 0);
            due("no row", x.item(0, 0, 0, 1), NULL);
            x.sheet(3, 0, 24);
            due("24", x.drop(3), 24);
        });
        says("Promise 34", "BAD", () -> bounds("sheet", 0, 3, v -> rich().drop(v)));
        says("Promise 34", "BAD; NULL", () -> {
            BathRim x = rich();
            due("nothing there", x.drop(3), NULL);
            x.drop(2);
            due("dropped before", x.drop(2), NULL);
        });
    }

    private static void item() {
        says("Promise 35", "becomes v, its lowest bits: 1", () -> {
            BathRim x = told("0+0^0;p0");
            long[] above = {1L << 8, 1L << 16, 1L << 32, 0};
            for (int lane = 0; lane < 4; lane++) {
                x.sheet(0, lane, 2);
                due("item", x.item(0, lane, 1, above[lane] + 7), 1);
                items(x, 0, 0, lane, 0, 7);
                due("all bits above", x.item(0, lane, 0, -above[lane] + 7), 1);
                items(x, 0, 0, lane, 7, 7);
                due("the greatest", x.item(0, lane, 0, Long.MAX_VALUE), 1);
                items(x, 0, 0, lane, -1, 7);
            }
        });
        says("Promise 35", "BAD", () -> {
            bounds("sheet", 0, 3, v -> rich().item(v, 0, 0, 0));
            bounds("lane", 0, 3, v -> rich().item(0, v, 0, 0));
        });
        says("Promise 35", "BAD; NULL; CAST; INDEX", () -> {
            BathRim x = rich();
            due("nothing there", x.item(3, 0, 0, 0), NULL);
            for (int lane = 1; lane < 4; lane++) {
                due("bytes as " + lane, x.item(0, lane, 0, 0), CAST);
            }
            for (int i : new int[] {LOW, -1, 3, HIGH}) {
                due("item " + i, x.item(0, 0, i, 0), INDEX);
            }
            due("of no items", x.item(2, 2, 0, 0), INDEX);
            due("the last", x.item(0, 0, 2, 0), 1);
        });
    }

    private static void copy() {
        says("Promise 36", "n items of a SHEET from i on come to another one (or the same) from j on", () -> {
            BathRim x = told("0+0^0;p0");
            row(x, 0, 2, 1, 2, 3, 4, 5);
            row(x, 1, 2, 9, 9, 9);
            due("2", x.copy(0, 3, 1, 1, 2), 2);
            items(x, 0, 1, 2, 9, 4, 5);
            items(x, 0, 0, 2, 1, 2, 3, 4, 5);
            due("all", x.copy(1, 0, 0, 0, 3), 3);
            items(x, 0, 0, 2, 9, 4, 5, 4, 5);
            due("none", x.copy(0, 0, 1, 0, 0), 0);
            due("none, behind the last of both", x.copy(0, 5, 1, 3, 0), 0);
            items(x, 0, 1, 2, 9, 4, 5);
            for (int lane = 0; lane < 4; lane++) {
                row(x, 2, lane, 3);
                row(x, 3, lane, 4);
                due("of lane " + lane, x.copy(2, 0, 3, 0, 1), 1);
                items(x, 0, 3, lane, 3);
            }
        });
        says("Promise 36", "as if all were taken ahead", () -> {
            BathRim x = told("0+0^0;p0");
            row(x, 0, 0, 1, 2, 3, 4, 5);
            due("up", x.copy(0, 0, 0, 1, 4), 4);
            items(x, 0, 0, 0, 1, 1, 2, 3, 4);
            row(x, 0, 0, 1, 2, 3, 4, 5);
            due("down", x.copy(0, 1, 0, 0, 4), 4);
            items(x, 0, 0, 0, 2, 3, 4, 5, 5);
            due("where they are", x.copy(0, 0, 0, 0, 5), 5);
            items(x, 0, 0, 0, 2, 3, 4, 5, 5);
        });
    }

    private static void copyRefused() {
        says("Promise 36", "BAD", () -> {
            bounds("from", 0, 3, v -> rich().copy(v, 0, 0, 0, 1));
            bounds("to", 0, 3, v -> rich().copy(0, 0, v, 0, 1));
        });
        says("Promise 36", "NULL (either)", () -> {
            due("from nothing", rich().copy(3, 0, 0, 0, 1), NULL);
            due("to nothing", rich().copy(0, 0, 3, 0, 1), NULL);
            due("from nothing to itself", rich().copy(3, 0, 3, 0, 0), NULL);
        });
        says("Promise 36", "CAST: of unlike LANES", () -> {
            BathRim x = new BathRim();
            for (int from = 0; from < 4; from++) {
                for (int to = 0; to < 4; to++) {
                    x.sheet(0, from, 1);
                    x.sheet(1, to, 1);
                    due("from lane " + from + " to " + to, x.copy(0, 0, 1, 0, 1), from == to ? 1 : CAST);
                    due("of no items", x.copy(0, 0, 1, 0, 0), from == to ? 0 : CAST);
                }
            }
        });
        says("Promise 36", "INDEX", () -> {
            BathRim x = new BathRim();
            x.sheet(0, 0, 5);
            x.sheet(1, 0, 3);
            for (int v : new int[] {LOW, -1, 24, HIGH}) {
                due("from " + v, x.copy(0, v, 1, 0, 1), INDEX);
                due("to " + v, x.copy(0, 0, 1, v, 1), INDEX);
                due(v + " items", x.copy(0, 0, 1, 0, v), INDEX);
                due("none from " + v, x.copy(0, v, 1, 0, 0), INDEX);
                due("none to " + v, x.copy(0, 0, 1, v, 0), INDEX);
            }
            due("one too many of the one", x.copy(0, 3, 1, 0, 3), INDEX);
            due("one too many for the other", x.copy(0, 0, 1, 1, 3), INDEX);
            due("none behind the last but one", x.copy(0, 6, 1, 0, 0), INDEX);
            due("none behind the last but one", x.copy(0, 0, 1, 4, 0), INDEX);
            due("as many as there are", x.copy(0, 2, 1, 0, 3), 3);
        });
    }
}
