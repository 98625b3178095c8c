import java.util.ArrayList;
import java.util.List;
import java.util.Random;

/** Plays the same calls on BathRim and on a slow model that says the document's words one by one. */
public final class ModelTest {
    private static final int BAD = -1, NOT = -2, FULL = -3, NONE = -4, NULL = -11, CAST = -12, INDEX = -13, SIZE = -14;
    private static final String[] NAMES = {"man", "rule", "of", "at", "wave", "held", "type", "rim", "count", "nights",
        "march", "put", "paint", "drift", "undo", "seed", "ahead", "then", "falls", "alone", "post", "safe", "change",
        "coats", "guard", "calm", "steam", "image", "restore", "worn", "film", "sheet", "drop", "item", "copy"};
    private static int wrong = 0;

    public static void main(String[] args) {
        int runs = args.length > 0 ? Integer.parseInt(args[0]) : 1000;
        for (int run = 0; run < runs && wrong < 20; run++) {
            play(run);
        }
        System.out.println(wrong == 0 ? "the model agrees" : wrong + " answers are not the model's");
        if (wrong != 0) {
            System.exit(1);
        }
    }

    private static void play(int run) {
        Random random = new Random(run * 7919L + 1);
        BathRim rim = new BathRim();
        Model model = new Model();
        List<String> told = new ArrayList<>();
        boolean careless = run % 5 == 4;
        int calls = 0;
        while (calls < 480) {
            if (random.nextInt(12) == 0) {
                String text = tapeText(random);
                for (int i = 0; i < text.length() && calls < 510; i++, calls++) {
                    int letter = text.charAt(i);
                    check(run, told, "type(" + letter + ")", rim.type(letter), model.type(letter));
                }
                check(run, told, "rim() of \"" + text + "\"", rim.rim(), model.rim());
                calls++;
            } else if (random.nextInt(40) == 0) {
                calls += filmThenWorn(run, told, rim, model, random);
            } else {
                String name = NAMES[random.nextInt(NAMES.length)];
                if (name.equals("coats") && random.nextInt(4) != 0) {
                    continue;
                }
                one(run, told, rim, model, name, new Args(random, careless, model));
                calls++;
            }
            if (wrong > 0) {
                return;
            }
        }
    }

    /** What is filmed of one is asked for of all, now and behind a night, so that sets are seldom empty. */
    private static int filmThenWorn(int run, List<String> told, BathRim x, Model y, Random random) {
        int sheet = random.nextInt(4), lane = random.nextInt(4), n = 1 + random.nextInt(8), from = random.nextInt(10);
        int men = Math.max(1, y.now.men.size());
        int filmed = random.nextInt(men);
        check(run, told, call("sheet", sheet, lane, 24), x.sheet(sheet, lane, 24), y.sheet(sheet, lane, 24));
        check(run, told, call("film", filmed, n, sheet, lane, from), x.film(filmed, n, sheet, lane, from),
            y.film(filmed, n, sheet, lane, from));
        for (int what = 0; what < 3; what++) {
            for (int man = 0; man < men; man++) {
                check(run, told, call("worn", man, sheet, lane, from, n, what), x.worn(man, sheet, lane, from, n, what),
                    y.worn(man, sheet, lane, from, n, what));
            }
        }
        return 2 + 3 * men;
    }

    private static void check(int run, List<String> told, String call, long got, long want) {
        told.add(call + " = " + got);
        if (got != want) {
            wrong++;
            for (String line : told.subList(Math.max(0, told.size() - 60), told.size())) {
                System.out.println("   " + line);
            }
            System.out.println("run " + run + ": " + call + " answered " + got + ", the model " + want);
        }
    }

    private static void one(int run, List<String> told, BathRim x, Model y, String name, Args a) {
        int p, q, r, s, t, u;
        switch (name) {
            case "man": p = a.in(0, 4); q = a.in(0, 9); r = a.in(0, 11);
                check(run, told, call(name, p, q, r), x.man(p, q, r), y.man(p, q, r)); break;
            case "rule": p = a.in(0, 2); q = a.in(0, p == 2 ? 12 : 11);
                check(run, told, call(name, p, q), x.rule(p, q), y.rule(p, q)); break;
            case "of": p = a.man(); q = a.in(0, 4);
                check(run, told, call(name, p, q), x.of(p, q), y.of(p, q)); break;
            case "at": p = a.in(0, 11); q = a.in(0, 1);
                check(run, told, call(name, p, q), x.at(p, q), y.at(p, q)); break;
            case "wave": p = a.in(0, 11); q = a.in(0, 60);
                check(run, told, call(name, p, q), x.wave(p, q), y.wave(p, q)); break;
            case "held": p = a.in(0, 5);
                check(run, told, call(name, p), x.held(p), y.held(p)); break;
            case "type": p = a.in(32, 126);
                check(run, told, call(name, p), x.type(p), y.type(p)); break;
            case "rim":
                check(run, told, call(name), x.rim(), y.rim()); break;
            case "count": p = a.in(0, 9);
                check(run, told, call(name, p), x.count(p), y.count(p)); break;
            case "nights": p = a.few(1, 40);
                check(run, told, call(name, p), x.nights(p), y.nights(p)); break;
            case "march": p = a.man(); q = a.in(0, 11);
                check(run, told, call(name, p, q), x.march(p, q), y.march(p, q)); break;
            case "put": p = a.man(); q = a.in(0, 11);
                check(run, told, call(name, p, q), x.put(p, q), y.put(p, q)); break;
            case "paint": p = a.man(); q = a.in(1, 9);
                check(run, told, call(name, p, q), x.paint(p, q), y.paint(p, q)); break;
            case "drift": p = a.few(1, 40);
                check(run, told, call(name, p), x.drift(p), y.drift(p)); break;
            case "undo":
                check(run, told, call(name), x.undo(), y.undo()); break;
            case "seed": p = a.whole();
                check(run, told, call(name, p), x.seed(p), y.seed(p)); break;
            case "ahead": p = a.man(); q = a.few(0, 60); r = a.in(0, 1);
                check(run, told, call(name, p, q, r), x.ahead(p, q, r), y.ahead(p, q, r)); break;
            case "then": p = a.few(0, 60);
                check(run, told, call(name, p), x.then(p), y.then(p)); break;
            case "falls": p = a.man();
                check(run, told, call(name, p), x.falls(p), y.falls(p)); break;
            case "alone":
                check(run, told, call(name), x.alone(), y.alone()); break;
            case "post": p = a.man(); q = a.few(1, 40); r = a.in(0, 1);
                check(run, told, call(name, p, q, r), x.post(p, q, r), y.post(p, q, r)); break;
            case "safe": p = a.man(); q = a.few(1, 40);
                check(run, told, call(name, p, q), x.safe(p, q), y.safe(p, q)); break;
            case "change": p = a.few(1, 40); q = a.in(0, 1);
                check(run, told, call(name, p, q), x.change(p, q), y.change(p, q)); break;
            case "coats": p = a.in(0, 8); q = a.few(1, 30); r = a.in(-2, 6);
                check(run, told, call(name, p, q, r), x.coats(p, q, r), y.coats(p, q, r)); break;
            case "guard": p = a.in(0, 5); q = a.in(0, 1);
                check(run, told, call(name, p, q), x.guard(p, q), y.guard(p, q)); break;
            case "calm": p = a.few(1, 40);
                check(run, told, call(name, p), x.calm(p), y.calm(p)); break;
            case "steam": p = a.in(0, 6); q = a.in(0, 10); r = a.in(0, 1);
                check(run, told, call(name, p, q, r), x.steam(p, q, r), y.steam(p, q, r)); break;
            case "image":
                check(run, told, call(name), x.image(), y.image()); break;
            case "restore":
                check(run, told, call(name), x.restore(), y.restore()); break;
            case "worn": p = a.man(); q = a.in(0, 3); r = a.lane(q); s = a.few(0, 23); t = a.few(1, 8); u = a.in(0, 2);
                check(run, told, call(name, p, q, r, s, t, u), x.worn(p, q, r, s, t, u), y.worn(p, q, r, s, t, u)); break;
            case "film": p = a.man(); q = a.few(1, 24); r = a.in(0, 3); s = a.lane(r); t = a.few(0, 23);
                check(run, told, call(name, p, q, r, s, t), x.film(p, q, r, s, t), y.film(p, q, r, s, t)); break;
            case "sheet": p = a.in(0, 3); q = a.in(0, 3); r = a.in(0, 24);
                check(run, told, call(name, p, q, r), x.sheet(p, q, r), y.sheet(p, q, r)); break;
            case "drop": p = a.in(0, 3);
                check(run, told, call(name, p), x.drop(p), y.drop(p)); break;
            case "item": p = a.in(0, 3); q = a.lane(p); r = a.few(0, 23); long v = a.paintOrWide();
                check(run, told, call(name, p, q, r) + " of " + v, x.item(p, q, r, v), y.item(p, q, r, v)); break;
            default: p = a.in(0, 3); q = a.few(0, 23); r = a.in(0, 3); s = a.few(0, 23); t = a.few(0, 24);
                check(run, told, call(name, p, q, r, s, t), x.copy(p, q, r, s, t), y.copy(p, q, r, s, t)); break;
        }
    }

    private static String call(String name, int... args) {
        StringBuilder text = new StringBuilder(name).append('(');
        for (int i = 0; i < args.length; i++) {
            text.append(i == 0 ? "" : ", ").append(args[i]);
        }
        return text.append(')').toString();
    }

    private static String tapeText(Random random) {
        StringBuilder text = new StringBuilder();
        text.append(random.nextInt(12)).append('+').append(random.nextInt(12)).append('^').append(random.nextInt(13));
        int men = random.nextInt(7);
        for (int m = 0; m < men; m++) {
            text.append(m == 0 ? ';' : ',').append("plgdv".charAt(random.nextInt(5))).append(random.nextInt(10));
            if (random.nextInt(4) != 0) {
                text.append('@').append(random.nextInt(3) == 0 ? random.nextInt(12) : (2 * m + random.nextInt(2)));
            }
        }
        int slips = random.nextInt(3) == 0 ? 1 + random.nextInt(2) : 0;
        for (int k = 0; k < slips && text.length() > 0; k++) {
            int place = random.nextInt(text.length());
            char letter = "0123456789+^;,@plgdv  xP".charAt(random.nextInt(24));
            switch (random.nextInt(4)) {
                case 0: text.deleteCharAt(place); break;
                case 1: text.insert(place, letter); break;
                case 2: text.setCharAt(place, letter); break;
                default: text.setLength(place); break;
            }
        }
        for (int k = random.nextInt(3); k > 0; k--) {
            text.insert(random.nextInt(text.length() + 1), ' ');
        }
        return text.toString();
    }

    /** Arguments: most as told, some at the edges, some a step or a world outside. */
    private static final class Args {
        private final Random random;
        private final boolean careless;
        private final Model model;

        Args(Random random, boolean careless, Model model) {
            this.random = random;
            this.careless = careless;
            this.model = model;
        }

        int in(int least, int most) {
            int odds = random.nextInt(careless ? 8 : 60);
            if (odds == 0) {
                int[] outside = {least - 1, most + 1, Integer.MIN_VALUE, Integer.MAX_VALUE, -1, most + 2};
                return outside[random.nextInt(outside.length)];
            }
            return most < least ? least : least + random.nextInt(most - least + 1);
        }

        int few(int least, int most) {
            return in(least, random.nextInt(3) == 0 ? most : Math.min(most, least + 4));
        }

        int man() {
            return in(0, model.now.men.size() - 1);
        }

        int whole() {
            return random.nextInt(3) == 0 ? random.nextInt(50) - 3 : random.nextInt();
        }

        int lane(int sheet) {
            boolean known = sheet >= 0 && sheet < 4 && model.sheets[sheet] != null;
            return known && random.nextInt(8) != 0 ? model.laneOf(sheet) : in(0, 3);
        }

        long paintOrWide() {
            return random.nextInt(4) == 0 ? random.nextLong() : random.nextInt(12) - 1;
        }
    }

    private static final class Man {
        final int kind;
        final int paint;
        final int inch; // NONE: fallen

        Man(int kind, int paint, int inch) {
            this.kind = kind;
            this.paint = paint;
            this.inch = inch;
        }

        boolean stands() { return inch != NONE; }
        Man kind(int v) { return new Man(v, paint, inch); }
        Man paint(int v) { return new Man(kind, v, inch); }
        Man inch(int v) { return new Man(kind, paint, v); }
    }

    /** A state that never changes: what is done makes another one. */
    private static final class State {
        List<Man> men = new ArrayList<>();
        int source = 0, stride = 1, height = 5, night = 0;
        long draw = 1;

        State copy() {
            State s = new State();
            s.men.addAll(men);
            s.source = source; s.stride = stride; s.height = height; s.night = night; s.draw = draw;
            return s;
        }

        State with(int man, Man m) {
            State s = copy();
            s.men.set(man, m);
            return s;
        }

        int high(int inch, int on) {
            int comesUp = source;
            for (int k = 0; k < night + on; k++) {
                comesUp += stride;
                if (comesUp >= 12) comesUp -= 12;
            }
            int off = inch > comesUp ? inch - comesUp : comesUp - inch;
            return off >= height ? 0 : height - off;
        }

        int who(int inch) {
            for (int i = 0; i < men.size(); i++) if (men.get(i).stands() && men.get(i).inch == inch) return i;
            return NONE;
        }

        int besides(Man m) {
            int n = 0;
            if (m.stands()) {
                if (who(m.inch - 1) != NONE) n++;
                if (who(m.inch + 1) != NONE) n++;
            }
            return n;
        }

        int fallen() {
            int n = 0;
            for (Man m : men) if (!m.stands()) n++;
            return n;
        }

        int grip(Man m) {
            if (!m.stands()) return 0;
            int plain = m.paint + 2;
            int lame = plain / 2;
            int general = plain + besides(m);
            int drummer = lame + ((night & 1) == 1 ? 3 : 0);
            int veteran = general + fallen();
            return new int[] {plain, lame, general, drummer, veteran}[m.kind];
        }

        State next() {
            State s = copy();
            for (int i = 0; i < men.size(); i++) {
                Man m = men.get(i);
                if (!m.stands()) continue;
                int high = high(m.inch, 0);
                if (grip(m) < high) s.men.set(i, m.inch(NONE));
                else if (high > 0 && m.paint > 0) s.men.set(i, m.paint(m.paint - 1));
            }
            s.night++;
            return s;
        }

        State behind(int n) {
            State s = this;
            for (int k = 0; k < n; k++) s = s.next();
            return s;
        }

        State drifted() {
            State s = copy();
            s.draw = (draw * 1103515245L + 12345L) % 2147483648L;
            if (men.isEmpty()) return s;
            int man = (int) (s.draw / 65536 % men.size());
            int inch = (int) (s.draw / 128 % 12);
            if (men.get(man).stands() && who(inch) == NONE) s.men.set(man, men.get(man).inch(inch));
            return s;
        }

        int standSet() {
            int set = 0;
            for (int i = 0; i < men.size(); i++) if (men.get(i).stands()) set += 1 << i;
            return set;
        }

        int standCount() { return men.size() - fallen(); }

        int held(int set, int r) {
            int result = 0;
            for (int inch = 0; inch < 12; inch++) {
                boolean held = false;
                for (int i = 0; i < men.size(); i++) {
                    Man m = men.get(i);
                    if ((set >> i & 1) == 1 && m.stands() && Math.abs(m.inch - inch) <= r) held = true;
                }
                if (held) result += 1 << inch;
            }
            return result;
        }
    }

    private static final class Model {
        State now = new State();
        List<State> past = new ArrayList<>();
        State keptNow;
        List<State> keptPast;
        final StringBuilder tape = new StringBuilder();
        final Object[] sheets = new Object[4];

        private boolean out(int v, int least, int most) { return v < least || v > most; }
        private boolean noMan(int man) { return out(man, 0, now.men.size() - 1); }

        private void step(State s) {
            past.add(now);
            if (past.size() > 8) past.remove(0);
            now = s;
        }

        int man(int kind, int paint, int inch) {
            if (out(kind, 0, 4) || out(paint, 0, 9) || out(inch, 0, 11)) return BAD;
            if (now.men.size() == 6) return FULL;
            if (now.who(inch) != NONE) return NOT;
            now = now.copy();
            now.men.add(new Man(kind, paint, inch));
            past.clear();
            return now.men.size() - 1;
        }

        int rule(int what, int v) {
            if (out(what, 0, 2) || out(v, 0, what == 2 ? 12 : 11)) return BAD;
            State s = now.copy();
            int was;
            if (what == 0) { was = s.source; s.source = v; }
            else if (what == 1) { was = s.stride; s.stride = v; }
            else { was = s.height; s.height = v; }
            now = s;
            return was;
        }

        int of(int man, int what) {
            if (noMan(man) || out(what, 0, 4)) return BAD;
            Man m = now.men.get(man);
            if (what == 0) return m.kind;
            if (what == 1) return m.paint;
            if (what == 2) return m.inch;
            if (what == 3) return now.grip(m);
            int set = 0;
            if (m.stands()) {
                if (now.who(m.inch - 1) != NONE) set += 1 << now.who(m.inch - 1);
                if (now.who(m.inch + 1) != NONE) set += 1 << now.who(m.inch + 1);
            }
            return set;
        }

        int at(int inch, int what) {
            if (out(inch, 0, 11) || out(what, 0, 1)) return BAD;
            return what == 0 ? now.who(inch) : now.high(inch, 0);
        }

        int wave(int inch, int n) {
            if (out(inch, 0, 11) || out(n, 0, 60)) return BAD;
            return now.high(inch, n);
        }

        int held(int r) { return out(r, 0, 5) ? BAD : now.held(63, r); }

        int type(int letter) {
            if (out(letter, 32, 126)) return BAD;
            if (tape.length() == 60) return FULL;
            tape.append((char) letter);
            return tape.length();
        }

        /** Letter by letter: what may come next is a text of classes, n for a digit that goes on a number. */
        int rim() {
            String text = tape.toString();
            tape.setLength(0);
            State s = new State();
            s.draw = now.draw;
            int part = 0; // of 0 source, 1 stride, 2 height, 3 kind, 4 paint, 5 inch
            int first = -1, value = 0, digits = 0;
            boolean joined = false; // the letter ahead is a digit of the same number
            boolean numberOpen = false, manOpen = false;
            for (int i = 0; i <= text.length(); i++) {
                char c = i < text.length() ? text.charAt(i) : '$';
                if (c == ' ') { joined = false; continue; }
                boolean digit = c >= '0' && c <= '9';
                boolean isNumber = part < 3 || part == 5;
                if (isNumber && digit && (!numberOpen || joined && digits == 1)) {
                    if (!numberOpen) { first = i; value = 0; digits = 0; }
                    numberOpen = true;
                    joined = true;
                    value = value * 10 + (c - '0');
                    digits++;
                    if (value > (part == 2 ? 12 : 11)) return -20 - first;
                    boolean more = digits == 1 && i + 1 < text.length() && Character.isDigit(text.charAt(i + 1));
                    if (part == 5 && !more) {
                        for (int k = 0; k < s.men.size() - 1; k++) {
                            if (s.men.get(k).inch == value) return -20 - first;
                        }
                    }
                    continue;
                }
                joined = false;
                if (isNumber && numberOpen) {
                    if (part == 0) s.source = value;
                    if (part == 1) s.stride = value;
                    if (part == 2) s.height = value;
                    if (part == 5) s.men.set(s.men.size() - 1, s.men.get(s.men.size() - 1).inch(value));
                    numberOpen = false;
                    if (part == 0 && c == '+') { part = 1; continue; }
                    if (part == 1 && c == '^') { part = 2; continue; }
                    if (part == 2 && (c == ';' || c == '$')) { part = 3; continue; }
                    if (part == 5 && (c == '$' || c == ',' && s.men.size() < 6)) { part = 3; continue; }
                    return -20 - i;
                }
                if (part == 3 && "plgdv".indexOf(c) >= 0) {
                    s.men.add(new Man("plgdv".indexOf(c), 0, NONE));
                    part = 4;
                    manOpen = true;
                    continue;
                }
                if (part == 4 && manOpen && digit) {
                    s.men.set(s.men.size() - 1, s.men.get(s.men.size() - 1).paint(c - '0'));
                    manOpen = false;
                    continue;
                }
                if (part == 4 && !manOpen) {
                    if (c == '@') { part = 5; continue; }
                    if (c == '$' || c == ',' && s.men.size() < 6) { part = 3; continue; }
                }
                return -20 - i;
            }
            now = s;
            past.clear();
            return s.men.size();
        }

        int count(int what) {
            int paint = 0, inches = 0;
            for (Man m : now.men) {
                paint += m.paint;
                if (m.stands()) inches += 1 << m.inch;
            }
            int[] all = {now.men.size(), now.standCount(), now.night, now.standSet(), inches, paint,
                now.source, now.stride, now.height, past.size()};
            return out(what, 0, 9) ? BAD : all[what];
        }

        int nights(int n) {
            if (out(n, 1, 40)) return BAD;
            if (now.night > 9999 - n) return FULL;
            for (int k = 0; k < n; k++) step(now.next());
            return now.standSet();
        }

        int march(int man, int inch) {
            if (noMan(man) || out(inch, 0, 11)) return BAD;
            Man m = now.men.get(man);
            if (!m.stands() || now.who(inch) != NONE) return NOT;
            step(now.with(man, m.inch(inch)));
            return m.inch;
        }

        int put(int man, int inch) {
            if (noMan(man) || out(inch, 0, 11)) return BAD;
            Man m = now.men.get(man);
            if (m.stands() || now.who(inch) != NONE) return NOT;
            step(now.with(man, m.inch(inch)));
            return now.standCount();
        }

        int paint(int man, int n) {
            if (noMan(man) || out(n, 1, 9)) return BAD;
            Man m = now.men.get(man);
            if (m.paint == 9) return NOT;
            step(now.with(man, m.paint(Math.min(9, m.paint + n))));
            return now.men.get(man).paint;
        }

        int drift(int n) {
            if (out(n, 1, 40)) return BAD;
            if (now.night > 9999 - n) return FULL;
            for (int k = 0; k < n; k++) step(now.drifted().next());
            return now.standSet();
        }

        int undo() {
            if (past.isEmpty()) return NONE;
            State s = past.remove(past.size() - 1).copy();
            s.source = now.source;
            s.stride = now.stride;
            s.height = now.height;
            now = s;
            return past.size();
        }

        int seed(int v) {
            if (v < 0) return BAD;
            int was = (int) now.draw;
            now = now.copy();
            now.draw = v;
            return was;
        }

        int ahead(int man, int n, int what) {
            if (noMan(man) || out(n, 0, 60) || out(what, 0, 1)) return BAD;
            Man m = now.behind(n).men.get(man);
            return what == 0 ? m.inch : m.paint;
        }

        int then(int n) { return out(n, 0, 60) ? BAD : now.behind(n).standSet(); }

        int falls(int man) {
            if (noMan(man)) return BAD;
            for (int n = 0; n <= 60; n++) if (!now.behind(n).men.get(man).stands()) return n;
            return NONE;
        }

        int alone() {
            for (int n = 0; n <= 60; n++) if (now.behind(n).standCount() < 2) return n;
            return NONE;
        }

        private boolean mayBe(int man, int inch) { return now.who(inch) == NONE || now.who(inch) == man; }

        int post(int man, int n, int what) {
            if (noMan(man) || out(n, 1, 40) || out(what, 0, 1)) return BAD;
            for (int many = 6; many >= 0; many--) {
                for (int inch = 0; inch < 12; inch++) {
                    if (mayBe(man, inch)
                            && now.with(man, now.men.get(man).inch(inch)).behind(n).standCount() == many) {
                        return what == 0 ? inch : many;
                    }
                }
            }
            throw new AssertionError("no post");
        }

        int safe(int man, int n) {
            if (noMan(man) || out(n, 1, 40)) return BAD;
            int set = 0;
            for (int inch = 0; inch < 12; inch++) {
                if (mayBe(man, inch)
                        && now.with(man, now.men.get(man).inch(inch)).behind(n).men.get(man).stands()) {
                    set += 1 << inch;
                }
            }
            return set;
        }

        int change(int n, int what) {
            if (out(n, 1, 40) || out(what, 0, 1)) return BAD;
            for (int many = 6; many >= 0; many--) {
                for (int code = 0; code < 60; code++) {
                    int i = code / 10, j = code % 10;
                    if (i >= j || noMan(j)) continue;
                    Man a = now.men.get(i), b = now.men.get(j);
                    if (!a.stands() || !b.stands()) continue;
                    if (now.with(i, a.inch(b.inch)).with(j, b.inch(a.inch)).behind(n).standCount() == many) {
                        return what == 0 ? code : many;
                    }
                }
            }
            return NONE;
        }

        int coats(int k, int n, int i) {
            if (out(k, 0, 8) || out(n, 1, 30) || i < -2) return BAD;
            int size = now.men.size();
            if (size == 0 || i >= size) return NONE;
            int bestStand = -1, bestPaint = -1;
            int[] best = null;
            int codes = 1;
            for (int m = 0; m < size; m++) codes *= 9;
            for (int code = 0; code < codes; code++) { // base 9, man 0 the highest place: rising as the document's
                int[] share = new int[size];
                int sum = 0;
                for (int m = size - 1, rest = code; m >= 0; m--, rest /= 9) {
                    share[m] = rest % 9;
                    sum += share[m];
                }
                if (sum != k) continue;
                State s = now.copy();
                for (int m = 0; m < size; m++) {
                    s.men.set(m, s.men.get(m).paint(Math.min(9, s.men.get(m).paint + share[m])));
                }
                s = s.behind(n);
                int paint = 0;
                for (Man m : s.men) if (m.stands()) paint += m.paint;
                if (s.standCount() > bestStand || s.standCount() == bestStand && paint > bestPaint) {
                    bestStand = s.standCount();
                    bestPaint = paint;
                    best = share;
                }
            }
            return i == -1 ? bestStand : i == -2 ? bestPaint : best[i];
        }

        int guard(int r, int what) {
            if (out(r, 0, 5) || out(what, 0, 1)) return BAD;
            for (int many = 0; many <= 6; many++) {
                for (int set = 0; set < 64; set++) {
                    boolean stand = (set & now.standSet()) == set;
                    if (stand && Integer.bitCount(set) == many && now.held(set, r) == now.held(63, r)) {
                        return what == 0 ? many : set;
                    }
                }
            }
            throw new AssertionError("no guard");
        }

        int calm(int n) {
            if (out(n, 1, 40)) return BAD;
            int greatest = -1;
            for (int h = 0; h <= 12; h++) {
                State s = now.copy();
                s.height = h;
                if (s.behind(n).standSet() == now.standSet()) greatest = h;
            }
            return greatest;
        }

        int steam(int m, int c, int what) {
            if (out(m, 0, 6) || out(c, 0, 10) || out(what, 0, 1)) return BAD;
            long above = 0;
            for (int set = 0; set < 64; set++) { // who has no grip, of six, apart: ways of 10^6
                long ways = 1;
                int stand = 0;
                for (int i = 0; i < 6; i++) {
                    boolean steamed = (set >> i & 1) == 1;
                    ways *= steamed ? c : 10 - c;
                    if (i < now.men.size() && now.men.get(i).stands()) {
                        Man man = now.men.get(i);
                        if ((steamed ? 0 : now.grip(man)) >= now.high(man.inch, 0)) stand++;
                    }
                }
                if (stand >= m) above += ways;
            }
            long below = 1000000;
            for (int d : new int[] {2, 5}) {
                while (above % d == 0 && below % d == 0) { above /= d; below /= d; }
            }
            return (int) (what == 0 ? above : below);
        }

        int image() {
            keptNow = now;
            keptPast = new ArrayList<>(past);
            return 1;
        }

        int restore() {
            if (keptNow == null) return NONE;
            now = keptNow;
            past = new ArrayList<>(keptPast);
            return 1;
        }

        int laneOf(int sheet) {
            Object row = sheets[sheet];
            return row instanceof byte[] ? 0 : row instanceof short[] ? 1 : row instanceof int[] ? 2 : 3;
        }

        private long get(Object row, int lane, int i) {
            switch (lane) {
                case 0: return ((byte[]) row)[i];
                case 1: return ((short[]) row)[i];
                case 2: return ((int[]) row)[i];
                default: return ((long[]) row)[i];
            }
        }

        private void set(Object row, int lane, int i, long v) {
            switch (lane) {
                case 0: ((byte[]) row)[i] = (byte) v; break;
                case 1: ((short[]) row)[i] = (short) v; break;
                case 2: ((int[]) row)[i] = (int) v; break;
                default: ((long[]) row)[i] = v; break;
            }
        }

        /** What the machine itself would find for n items from i on. */
        private int found(int sheet, int lane, int i, int n) {
            try {
                for (int k = 0; k < n; k++) get(sheets[sheet], lane, i + k);
                return 0;
            } catch (NullPointerException e) {
                return NULL;
            } catch (ClassCastException e) {
                return CAST;
            } catch (IndexOutOfBoundsException e) {
                return INDEX;
            }
        }

        private boolean tells(State s, int man, int sheet, int lane, int i, int n) {
            boolean all = true;
            for (int k = 0; k < n; k++) {
                if (s.behind(k + 1).men.get(man).paint != get(sheets[sheet], lane, i + k)) all = false;
            }
            return all;
        }

        int worn(int man, int sheet, int lane, int i, int n, int what) {
            if (noMan(man) || out(sheet, 0, 3) || out(lane, 0, 3) || out(n, 1, 8) || out(what, 0, 2)) return BAD;
            if (found(sheet, lane, i, n) != 0) return found(sheet, lane, i, n);
            int set = 0;
            for (int v = 0; v <= new int[] {4, 9, 12}[what]; v++) {
                Man m = now.men.get(man);
                State s = now.with(man, what == 0 ? m.kind(v) : what == 1 ? m.paint(v) : m);
                if (what == 2) s.height = v;
                if (tells(s, man, sheet, lane, i, n)) set += 1 << v;
            }
            return set;
        }

        int film(int man, int n, int sheet, int lane, int i) {
            if (noMan(man) || out(n, 1, 24) || out(sheet, 0, 3) || out(lane, 0, 3)) return BAD;
            if (found(sheet, lane, i, n) != 0) return found(sheet, lane, i, n);
            for (int k = 0; k < n; k++) set(sheets[sheet], lane, i + k, now.behind(k + 1).men.get(man).paint);
            return n;
        }

        int sheet(int sheet, int lane, int n) {
            if (out(sheet, 0, 3) || out(lane, 0, 3) || n > 24) return BAD;
            if (n < 0) return SIZE;
            sheets[sheet] = lane == 0 ? new byte[n] : lane == 1 ? new short[n] : lane == 2 ? new int[n] : new long[n];
            return n;
        }

        int drop(int sheet) {
            if (out(sheet, 0, 3)) return BAD;
            if (sheets[sheet] == null) return NULL;
            int had = java.lang.reflect.Array.getLength(sheets[sheet]);
            sheets[sheet] = null;
            return had;
        }

        int item(int sheet, int lane, int i, long v) {
            if (out(sheet, 0, 3) || out(lane, 0, 3)) return BAD;
            if (found(sheet, lane, i, 1) != 0) return found(sheet, lane, i, 1);
            set(sheets[sheet], lane, i, v);
            return 1;
        }

        int copy(int from, int i, int to, int j, int n) {
            if (out(from, 0, 3) || out(to, 0, 3)) return BAD;
            try {
                System.arraycopy(sheets[from], i, sheets[to], j, n);
                return n;
            } catch (NullPointerException e) {
                return NULL;
            } catch (ArrayStoreException e) {
                return CAST;
            } catch (IndexOutOfBoundsException e) {
                return INDEX;
            }
        }
    }
}
