import java.util.Arrays;

/** Tin soldiers on the rim of a bath: every call of the document, over the parts that stand below it. */
public final class BathRim {
    public static final int BAD = -1, NOT = -2, FULL = -3, NONE = -4, NULL = -11, CAST = -12, INDEX = -13, SIZE = -14;

    private static final int INCHES = 12;
    private static final int ALL_INCHES = 4095;
    private static final int MOST_MEN = 6;
    private static final int MOST_PAINT = 9;
    private static final int MOST_HEIGHT = 12;
    private static final int MOST_REACH = 5;
    private static final int MOST_COATS = 8;
    private static final int MOST_PARTINGS = 1287; // of 8 coats among 6 men
    private static final int FALLEN = -1;
    private static final int LOWEST_31_BITS = 2147483647;

    private static final int PLAIN = 0, LAME = 1, GENERAL = 2, DRUMMER = 3, VETERAN = 4;
    private static final String KIND_LETTERS = "plgdv";

    private static final int LAST_NIGHT = 9999;
    private static final int MOST_NIGHTS = 40;
    private static final int MOST_FORETOLD = 60;
    private static final int MOST_COATED = 30;
    private static final int MOST_WORN = 8;
    private static final int MOST_UNDONE = 8;

    private static final int TAPE_ROOM = 60;
    private static final int FIRST_FAULT = -20;
    private static final int SHEETS = 4;
    private static final int LANES = 4;
    private static final int MOST_ITEMS = 24;

    private final Rim now = new Rim();
    private final Undos undos = new Undos();
    private final Rim keptRim = new Rim();
    private final Undos keptUndos = new Undos();
    private boolean imageKept;
    private final Tape tape = new Tape();
    private final Oracle oracle = new Oracle();
    private final Steam odds = new Steam();
    private final Painter painter = new Painter();
    private final Row[] rows = new Row[SHEETS];

    public BathRim() {
        for (int s = 0; s < SHEETS; s++) {
            rows[s] = new Row();
        }
    }

    // ---- 1 men, waves

    public int man(int kind, int paint, int inch) {
        if (!within(kind, PLAIN, VETERAN) || !within(paint, 0, MOST_PAINT) || !isInch(inch)) {
            return BAD;
        }
        if (now.men >= MOST_MEN) {
            return FULL;
        }
        if (now.whoIsAt(inch) != NONE) {
            return NOT;
        }
        undos.forgetAll();
        now.enlist(kind, paint, inch);
        return now.men - 1;
    }

    public int rule(int what, int v) {
        int most = what == 2 ? MOST_HEIGHT : INCHES - 1;
        if (!within(what, 0, 2) || !within(v, 0, most)) {
            return BAD;
        }
        int was = lawPart(what);
        if (what == 0) {
            now.source = v;
        } else if (what == 1) {
            now.stride = v;
        } else {
            now.height = v;
        }
        return was;
    }

    public int of(int man, int what) {
        if (!isMan(man) || !within(what, 0, 4)) {
            return BAD;
        }
        switch (what) {
            case 0: return now.kinds[man];
            case 1: return now.paints[man];
            case 2: return inchOrNone(now, man);
            case 3: return now.stands(man) ? now.gripOf(man, now.inchesTaken()) : 0;
            default: return now.whoIsNextTo(man);
        }
    }

    public int at(int inch, int what) {
        if (!isInch(inch) || !within(what, 0, 1)) {
            return BAD;
        }
        return what == 0 ? now.whoIsAt(inch) : now.highAt(inch, now.crestBehind(0));
    }

    public int wave(int inch, int n) {
        if (!isInch(inch) || !within(n, 0, MOST_FORETOLD)) {
            return BAD;
        }
        return now.highAt(inch, now.crestBehind(n));
    }

    public int held(int r) {
        if (!within(r, 0, MOST_REACH)) {
            return BAD;
        }
        return now.heldBy(now.whoStands(), r);
    }

    public int type(int letter) {
        if (!within(letter, 32, 126)) {
            return BAD;
        }
        if (tape.length >= TAPE_ROOM) {
            return FULL;
        }
        tape.append((char) letter);
        return tape.length;
    }

    public int rim() {
        int fault = tape.read();
        if (fault != 0) {
            return fault;
        }
        int draw = now.draw;
        now.takeAll(tape.told);
        now.draw = draw;
        undos.forgetAll();
        return now.men;
    }

    public int count(int what) {
        switch (what) {
            case 0: return now.men;
            case 1: return now.howManyStand();
            case 2: return now.night;
            case 3: return now.whoStands();
            case 4: return now.inchesTaken();
            case 5: return now.paintTogether();
            case 6:
            case 7:
            case 8: return lawPart(what - 6);
            case 9: return undos.known;
            default: return BAD;
        }
    }

    // ---- what is done

    public int nights(int n) {
        return passNights(n, false);
    }

    public int march(int man, int inch) {
        if (!isMan(man) || !isInch(inch)) {
            return BAD;
        }
        if (!now.stands(man) || now.whoIsAt(inch) != NONE) {
            return NOT;
        }
        undos.remember(now);
        int was = now.inches[man];
        now.inches[man] = inch;
        return was;
    }

    public int put(int man, int inch) {
        if (!isMan(man) || !isInch(inch)) {
            return BAD;
        }
        if (now.stands(man) || now.whoIsAt(inch) != NONE) {
            return NOT;
        }
        undos.remember(now);
        now.inches[man] = inch;
        return now.howManyStand();
    }

    public int paint(int man, int n) {
        if (!isMan(man) || !within(n, 1, MOST_PAINT)) {
            return BAD;
        }
        if (now.paints[man] >= MOST_PAINT) {
            return NOT;
        }
        undos.remember(now);
        now.addPaint(man, n);
        return now.paints[man];
    }

    public int drift(int n) {
        return passNights(n, true);
    }

    public int undo() {
        if (undos.known <= 0) {
            return NONE;
        }
        undos.takeBack(now);
        return undos.known;
    }

    public int seed(int v) {
        if (v < 0) {
            return BAD;
        }
        int was = now.draw;
        now.draw = v;
        return was;
    }

    // ---- 2 foretold

    public int ahead(int man, int n, int what) {
        if (!isMan(man) || !within(n, 0, MOST_FORETOLD) || !within(what, 0, 1)) {
            return BAD;
        }
        Rim later = oracle.behind(now, n);
        return what == 0 ? inchOrNone(later, man) : later.paints[man];
    }

    public int then(int n) {
        if (!within(n, 0, MOST_FORETOLD)) {
            return BAD;
        }
        return oracle.behind(now, n).whoStands();
    }

    public int falls(int man) {
        if (!isMan(man)) {
            return BAD;
        }
        return oracle.firstFallOf(now, man);
    }

    public int alone() {
        return oracle.firstAlone(now);
    }

    public int post(int man, int n, int what) {
        if (!isMan(man) || !within(n, 1, MOST_NIGHTS) || !within(what, 0, 1)) {
            return BAD;
        }
        oracle.choosePost(now, man, n);
        return what == 0 ? oracle.choice : oracle.most;
    }

    public int safe(int man, int n) {
        if (!isMan(man) || !within(n, 1, MOST_NIGHTS)) {
            return BAD;
        }
        return oracle.safeInches(now, man, n);
    }

    public int change(int n, int what) {
        if (!within(n, 1, MOST_NIGHTS) || !within(what, 0, 1)) {
            return BAD;
        }
        oracle.chooseChange(now, n);
        return what == 0 ? oracle.choice : oracle.most;
    }

    public int coats(int k, int n, int i) {
        if (!within(k, 0, MOST_COATS) || !within(n, 1, MOST_COATED) || i < -2) {
            return BAD;
        }
        if (i >= now.men || now.men == 0) {
            return NONE;
        }
        painter.part(now, k, n);
        if (i == -1) {
            return painter.mostStand;
        }
        return i == -2 ? painter.mostPaint : painter.bestShares[i];
    }

    public int guard(int r, int what) {
        if (!within(r, 0, MOST_REACH) || !within(what, 0, 1)) {
            return BAD;
        }
        int guards = oracle.fewestGuards(now, r);
        return what == 0 ? Integer.bitCount(guards) : guards;
    }

    public int calm(int n) {
        if (!within(n, 1, MOST_NIGHTS)) {
            return BAD;
        }
        return oracle.greatestCalm(now, n);
    }

    public int steam(int m, int c, int what) {
        if (!within(m, 0, MOST_MEN) || !within(c, 0, 10) || !within(what, 0, 1)) {
            return BAD;
        }
        odds.weigh(now, m, c);
        return what == 0 ? odds.above : odds.below;
    }

    public int image() {
        keptRim.takeAll(now);
        keptUndos.takeAll(undos);
        imageKept = true;
        return 1;
    }

    public int restore() {
        if (!imageKept) {
            return NONE;
        }
        now.takeAll(keptRim);
        undos.takeAll(keptUndos);
        return 1;
    }

    // ---- 3 sheets

    public int worn(int man, int sheet, int lane, int i, int n, int what) {
        if (!isMan(man) || !isSheet(sheet) || !isLane(lane) || !within(n, 1, MOST_WORN) || !within(what, 0, 2)) {
            return BAD;
        }
        int refusal = rows[sheet].refusal(lane, i, n);
        if (refusal != 0) {
            return refusal;
        }
        rows[sheet].mark(i, n);
        switch (what) {
            case 0: return oracle.kindsWorn(now, man, rows[sheet]);
            case 1: return oracle.paintsWorn(now, man, rows[sheet]);
            default: return oracle.heightsWorn(now, man, rows[sheet]);
        }
    }

    public int film(int man, int n, int sheet, int lane, int i) {
        if (!isMan(man) || !within(n, 1, MOST_ITEMS) || !isSheet(sheet) || !isLane(lane)) {
            return BAD;
        }
        int refusal = rows[sheet].refusal(lane, i, n);
        if (refusal != 0) {
            return refusal;
        }
        rows[sheet].mark(i, n);
        oracle.filmPaint(now, man, rows[sheet]);
        return n;
    }

    public int sheet(int sheet, int lane, int n) {
        if (!isSheet(sheet) || !isLane(lane) || n > MOST_ITEMS) {
            return BAD;
        }
        if (n < 0) {
            return SIZE;
        }
        rows[sheet].begin(lane, n);
        return n;
    }

    public int drop(int sheet) {
        if (!isSheet(sheet)) {
            return BAD;
        }
        if (rows[sheet].isMissing()) {
            return NULL;
        }
        rows[sheet].end();
        return rows[sheet].size;
    }

    public int item(int sheet, int lane, int i, long v) {
        if (!isSheet(sheet) || !isLane(lane)) {
            return BAD;
        }
        int refusal = rows[sheet].refusal(lane, i, 1);
        if (refusal != 0) {
            return refusal;
        }
        rows[sheet].write(i, v);
        return 1;
    }

    public int copy(int from, int i, int to, int j, int n) {
        if (!isSheet(from) || !isSheet(to)) {
            return BAD;
        }
        if (rows[from].isMissing() || rows[to].isMissing()) {
            return NULL;
        }
        if (rows[from].lane != rows[to].lane) {
            return CAST;
        }
        if (!rows[from].hasItems(i, n) || !rows[to].hasItems(j, n)) {
            return INDEX;
        }
        System.arraycopy(rows[from].items, i, rows[to].items, j, n);
        return n;
    }

    // ---- what the calls share

    private static boolean within(int v, int least, int most) {
        return v >= least && v <= most;
    }

    private static boolean isInch(int inch) {
        return within(inch, 0, INCHES - 1);
    }

    private static boolean isSheet(int sheet) {
        return within(sheet, 0, SHEETS - 1);
    }

    private static boolean isLane(int lane) {
        return within(lane, 0, LANES - 1);
    }

    private boolean isMan(int man) {
        return within(man, 0, now.men - 1);
    }

    private static int inchOrNone(Rim rim, int man) {
        return rim.stands(man) ? rim.inches[man] : NONE;
    }

    private int lawPart(int what) {
        if (what == 0) {
            return now.source;
        }
        return what == 1 ? now.stride : now.height;
    }

    private int passNights(int n, boolean drifting) {
        if (!within(n, 1, MOST_NIGHTS)) {
            return BAD;
        }
        if (now.night + n > LAST_NIGHT) {
            return FULL;
        }
        for (int k = 0; k < n; k++) {
            undos.remember(now);
            if (drifting) {
                now.marchByDraw();
            }
            now.passNight();
        }
        return now.whoStands();
    }

    /** What an undo gives back: where all are, their paint, the night, the draw. */
    private static class Moment {
        final int[] paints = new int[MOST_MEN];
        final int[] inches = new int[MOST_MEN];
        int night;
        int draw = 1;

        final void takeMoment(Moment other) {
            System.arraycopy(other.paints, 0, paints, 0, MOST_MEN);
            System.arraycopy(other.inches, 0, inches, 0, MOST_MEN);
            night = other.night;
            draw = other.draw;
        }
    }

    /** A rim: a moment of men of kinds, under a law of waves. */
    private static final class Rim extends Moment {
        final int[] kinds = new int[MOST_MEN];
        int men;
        int source;
        int stride = 1;
        int height = 5;

        void takeAll(Rim other) {
            takeMoment(other);
            System.arraycopy(other.kinds, 0, kinds, 0, MOST_MEN);
            men = other.men;
            source = other.source;
            stride = other.stride;
            height = other.height;
        }

        /** Whether both foretell the same: the draw has no part in what is foretold. */
        boolean isLike(Rim other) {
            if (men != other.men || night != other.night || source != other.source
                    || stride != other.stride || height != other.height) {
                return false;
            }
            for (int m = 0; m < men; m++) {
                if (kinds[m] != other.kinds[m] || paints[m] != other.paints[m] || inches[m] != other.inches[m]) {
                    return false;
                }
            }
            return true;
        }

        /** The caller has looked that there is room for one man more. */
        void enlist(int kind, int paint, int inch) {
            kinds[men] = kind;
            paints[men] = paint;
            inches[men] = inch;
            men++;
        }

        boolean stands(int man) {
            return inches[man] != FALLEN;
        }

        int whoStands() {
            int set = 0;
            for (int m = 0; m < men; m++) {
                if (stands(m)) {
                    set |= 1 << m;
                }
            }
            return set;
        }

        int howManyStand() {
            return Integer.bitCount(inchesTaken());
        }

        int inchesTaken() {
            int set = 0;
            for (int m = 0; m < men; m++) {
                if (stands(m)) {
                    set |= 1 << inches[m];
                }
            }
            return set;
        }

        int paintTogether() {
            int sum = 0;
            for (int m = 0; m < men; m++) {
                sum += paints[m];
            }
            return sum;
        }

        int paintOfStanding() {
            int sum = 0;
            for (int m = 0; m < men; m++) {
                if (stands(m)) {
                    sum += paints[m];
                }
            }
            return sum;
        }

        void addPaint(int man, int n) {
            paints[man] = Math.min(MOST_PAINT, paints[man] + n);
        }

        int whoIsAt(int inch) {
            for (int m = 0; m < men; m++) {
                if (inches[m] == inch) {
                    return m;
                }
            }
            return NONE;
        }

        int whoIsNextTo(int man) {
            int set = 0;
            if (stands(man)) {
                for (int m = 0; m < men; m++) {
                    if (stands(m) && Math.abs(inches[m] - inches[man]) == 1) {
                        set |= 1 << m;
                    }
                }
            }
            return set;
        }

        int heldBy(int who, int r) {
            int set = 0;
            for (int m = 0; m < men; m++) {
                if ((who >> m & 1) != 0 && stands(m)) {
                    set |= (1 << 2 * r + 1) - 1 << inches[m] >> r;
                }
            }
            return set & ALL_INCHES;
        }

        int crestBehind(int n) {
            return (source + (night + n) * stride) % INCHES;
        }

        int highAt(int inch, int crest) {
            return Math.max(0, height - Math.abs(inch - crest));
        }

        /** The grip of one who stands, where all who stand have taken these inches. */
        int gripOf(int man, int taken) {
            int plain = paints[man] + 2;
            int here = 1 << inches[man];
            int beside = Integer.bitCount(taken & (here << 1 | here >> 1));
            switch (kinds[man]) {
                case LAME: return plain / 2;
                case GENERAL: return plain + beside;
                case DRUMMER: return plain / 2 + night % 2 * 3;
                case VETERAN: return plain + beside + men - Integer.bitCount(taken);
                default: return plain;
            }
        }

        /** The inches taken ahead of the night, for the inches taken behind it. */
        int passNightBy(int taken) {
            int crest = crestBehind(0);
            int left = taken;
            for (int m = 0; m < men; m++) {
                int inch = inches[m];
                int high = inch == FALLEN ? 0 : highAt(inch, crest);
                if (high > 0) {
                    // grips are by those taken ahead of the night: nobody's fall loosens another in the same one
                    if (gripOf(m, taken) < high) {
                        inches[m] = FALLEN;
                        left ^= 1 << inch;
                    } else if (paints[m] > 0) {
                        paints[m]--;
                    }
                }
            }
            night++;
            return left;
        }

        void passNight() {
            passNightBy(inchesTaken());
        }

        void passSome(int n) {
            passWhile(n, 0);
        }

        /** Passes n nights, or fewer, once fewer than these stand: how many stand then. */
        int passWhile(int n, int fewest) {
            int taken = inchesTaken();
            int stand = Integer.bitCount(taken);
            for (int k = 0; k < n && stand >= fewest; k++) {
                taken = passNightBy(taken);
                stand = Integer.bitCount(taken);
            }
            return stand;
        }

        void marchByDraw() {
            draw = draw * 1103515245 + 12345 & LOWEST_31_BITS;
            if (men > 0) {
                int man = draw / 65536 % men;
                int inch = draw / 128 % INCHES;
                if (stands(man) && whoIsAt(inch) == NONE) {
                    inches[man] = inch;
                }
            }
        }
    }

    /** The moments ahead of the latest steps, in a ring, so that an older one gives its place to a new one. */
    private static final class Undos {
        private final Moment[] ring = new Moment[MOST_UNDONE];
        private int next;
        int known;

        Undos() {
            for (int k = 0; k < MOST_UNDONE; k++) {
                ring[k] = new Moment();
            }
        }

        void forgetAll() {
            known = 0;
        }

        void remember(Moment moment) {
            ring[next].takeMoment(moment);
            next = (next + 1) % MOST_UNDONE;
            known = Math.min(MOST_UNDONE, known + 1);
        }

        /** The caller has looked that one is known. */
        void takeBack(Moment moment) {
            next = (next + MOST_UNDONE - 1) % MOST_UNDONE;
            known--;
            moment.takeMoment(ring[next]);
        }

        void takeAll(Undos other) {
            for (int k = 0; k < MOST_UNDONE; k++) {
                ring[k].takeMoment(other.ring[k]);
            }
            next = other.next;
            known = other.known;
        }
    }

    /** Tries on a rim of its own what would come, so that nothing of the true one is changed. */
    private static final class Oracle {
        private final Rim trial = new Rim();
        int choice;
        int most;

        Rim behind(Rim now, int n) {
            trial.takeAll(now);
            trial.passSome(n);
            return trial;
        }

        int firstFallOf(Rim now, int man) {
            trial.takeAll(now);
            for (int n = 0; n <= MOST_FORETOLD; n++) {
                if (!trial.stands(man)) {
                    return n;
                }
                trial.passNight();
            }
            return NONE;
        }

        int firstAlone(Rim now) {
            trial.takeAll(now);
            for (int n = 0; n <= MOST_FORETOLD; n++) {
                if (trial.howManyStand() <= 1) {
                    return n;
                }
                trial.passNight();
            }
            return NONE;
        }

        private void beginChoice() {
            choice = NONE;
            most = NONE;
        }

        private void offer(int what, int howMany) {
            if (howMany > most) {
                choice = what;
                most = howMany;
            }
        }

        private static boolean mayBeAt(Rim now, int man, int inch) {
            int who = now.whoIsAt(inch);
            return who == NONE || who == man;
        }

        private void tryPost(Rim now, int man, int inch, int n) {
            trial.takeAll(now);
            trial.inches[man] = inch;
            trial.passSome(n);
        }

        void choosePost(Rim now, int man, int n) {
            beginChoice();
            for (int inch = 0; inch < INCHES; inch++) {
                if (mayBeAt(now, man, inch)) {
                    tryPost(now, man, inch, n);
                    offer(inch, trial.howManyStand());
                }
            }
        }

        int safeInches(Rim now, int man, int n) {
            int set = 0;
            for (int inch = 0; inch < INCHES; inch++) {
                if (mayBeAt(now, man, inch)) {
                    tryPost(now, man, inch, n);
                    if (trial.stands(man)) {
                        set |= 1 << inch;
                    }
                }
            }
            return set;
        }

        void chooseChange(Rim now, int n) {
            beginChoice();
            for (int i = 0; i < now.men; i++) {
                for (int j = i + 1; j < now.men; j++) {
                    if (now.stands(i) && now.stands(j)) {
                        trial.takeAll(now);
                        trial.inches[i] = now.inches[j];
                        trial.inches[j] = now.inches[i];
                        trial.passSome(n);
                        offer(10 * i + j, trial.howManyStand());
                    }
                }
            }
        }

        int fewestGuards(Rim now, int r) {
            int all = now.whoStands();
            int due = now.heldBy(all, r);
            int fewest = all;
            // sets rise, so the first of those with as few is the least
            for (int set = 0; set <= all; set++) {
                boolean someOfAll = (set & ~all) == 0;
                boolean fewer = Integer.bitCount(set) < Integer.bitCount(fewest);
                if (someOfAll && fewer && now.heldBy(set, r) == due) {
                    fewest = set;
                }
            }
            return fewest;
        }

        int greatestCalm(Rim now, int n) {
            int all = now.whoStands();
            for (int height = MOST_HEIGHT; height > 0; height--) {
                trial.takeAll(now);
                trial.height = height;
                trial.passSome(n);
                if (trial.whoStands() == all) {
                    return height;
                }
            }
            return 0;
        }

        /** Whether the trial would show the paint that the marked items tell. */
        private boolean wearsAs(int man, Row row) {
            for (int k = 0; k < row.marked; k++) {
                trial.passNight();
                if (row.items[row.from + k] != trial.paints[man]) {
                    return false;
                }
            }
            return true;
        }

        int kindsWorn(Rim now, int man, Row row) {
            int set = 0;
            for (int kind = PLAIN; kind <= VETERAN; kind++) {
                trial.takeAll(now);
                trial.kinds[man] = kind;
                set |= wearsAs(man, row) ? 1 << kind : 0;
            }
            return set;
        }

        int paintsWorn(Rim now, int man, Row row) {
            int set = 0;
            for (int paint = 0; paint <= MOST_PAINT; paint++) {
                trial.takeAll(now);
                trial.paints[man] = paint;
                set |= wearsAs(man, row) ? 1 << paint : 0;
            }
            return set;
        }

        int heightsWorn(Rim now, int man, Row row) {
            int set = 0;
            for (int height = 0; height <= MOST_HEIGHT; height++) {
                trial.takeAll(now);
                trial.height = height;
                set |= wearsAs(man, row) ? 1 << height : 0;
            }
            return set;
        }

        void filmPaint(Rim now, int man, Row row) {
            trial.takeAll(now);
            for (int k = 0; k < row.marked; k++) {
                trial.passNight();
                row.write(row.from + k, trial.paints[man]);
            }
        }
    }

    /** How likely so many stand behind a night of steam, as a fraction in lowest terms. */
    private static final class Steam {
        private final int[] weights = new int[MOST_MEN + 1];
        private int sure;
        private int shaky;
        int above;
        int below;

        void weigh(Rim now, int atLeast, int c) {
            sortMen(now);
            weighShaky(c);
            above = 0;
            for (int k = 0; k <= shaky; k++) {
                if (sure + k >= atLeast) {
                    above += weights[k];
                }
            }
            reduce();
        }

        /** Sure are those whom no wave reaches, shaky those who stand by their grip alone. */
        private void sortMen(Rim now) {
            sure = 0;
            shaky = 0;
            int taken = now.inchesTaken();
            int crest = now.crestBehind(0);
            for (int m = 0; m < now.men; m++) {
                if (now.stands(m)) {
                    int high = now.highAt(now.inches[m], crest);
                    if (high == 0) {
                        sure++;
                    } else if (now.gripOf(m, taken) >= high) {
                        shaky++;
                    }
                }
            }
        }

        /** Makes weights[k] the ways, of below, in which k of the shaky stand. */
        private void weighShaky(int c) {
            Arrays.fill(weights, 0);
            weights[0] = 1;
            below = 1;
            for (int s = 1; s <= shaky; s++) {
                for (int k = s; k > 0; k--) {
                    weights[k] = weights[k] * c + weights[k - 1] * (10 - c);
                }
                weights[0] *= c;
                below *= 10;
            }
        }

        private void reduce() {
            int a = below;
            int b = above;
            for (int step = 0; step < 64 && b != 0; step++) {
                int rest = a % b;
                a = b;
                b = rest;
            }
            if (a > 1) {
                above /= a;
                below /= a;
            }
        }
    }

    /** Parts coats of paint among all men; what it found is kept, since one parting is asked for in several calls. */
    private static final class Painter {
        private final Rim asked = new Rim();
        private final Rim trial = new Rim();
        private final int[] shares = new int[MOST_MEN];
        final int[] bestShares = new int[MOST_MEN];
        private int askedCoats = -1;
        private int askedNights;
        int mostStand;
        int mostPaint;

        /** The caller has looked that there is a man. */
        void part(Rim now, int coats, int n) {
            if (coats == askedCoats && n == askedNights && asked.isLike(now)) {
                return;
            }
            asked.takeAll(now);
            askedCoats = coats;
            askedNights = n;
            mostStand = -1;
            mostPaint = -1;
            beginShares(coats);
            boolean more = true;
            for (int tries = 0; tries < MOST_PARTINGS && more; tries++) {
                tryShares();
                more = nextShares();
            }
        }

        private void beginShares(int coats) {
            Arrays.fill(shares, 0);
            shares[asked.men - 1] = coats;
        }

        /** Shares rise from the first man on, so the first of like ones is met first; false behind the last ones. */
        private boolean nextShares() {
            int last = asked.men - 1;
            int man = last - 1;
            int taken = shares[last];
            while (man >= 0 && taken == 0) {
                taken = shares[man];
                shares[man] = 0;
                man--;
            }
            if (man < 0) {
                return false;
            }
            shares[man]++;
            shares[last] = taken - 1;
            return true;
        }

        private void tryShares() {
            trial.takeAll(asked);
            for (int m = 0; m < asked.men; m++) {
                trial.addPaint(m, shares[m]);
            }
            // who has fallen does not stand again, so fewer than the most need no look at the nights left
            int stand = trial.passWhile(askedNights, mostStand);
            int paint = trial.paintOfStanding();
            if (stand > mostStand || stand == mostStand && paint > mostPaint) {
                mostStand = stand;
                mostPaint = paint;
                System.arraycopy(shares, 0, bestShares, 0, MOST_MEN);
            }
        }
    }

    /** The letters typed, and how they are read as a rim. */
    private static final class Tape {
        private final char[] letters = new char[TAPE_ROOM];
        final Rim told = new Rim();
        int length;
        private int place;
        private boolean faulty;

        /** The caller has looked that there is room for one letter more. */
        void append(char letter) {
            letters[length] = letter;
            length++;
        }

        /** Reads all letters as a rim, which is told then: 0, or a fault. The tape is empty then. */
        int read() {
            place = 0;
            faulty = false;
            told.men = 0;
            told.source = readNumber(INCHES - 1, 0);
            readSign('+');
            told.stride = readNumber(INCHES - 1, 0);
            readSign('^');
            told.height = readNumber(MOST_HEIGHT, 0);
            if (!isAtEnd()) {
                readSign(';');
                readMen();
            }
            length = 0;
            return faulty ? FIRST_FAULT - place : 0;
        }

        private void readMen() {
            readMan();
            for (int m = 1; m < MOST_MEN && !isAtEnd(); m++) {
                readSign(',');
                readMan();
            }
            if (!isAtEnd()) {
                faulty = true;
            }
        }

        private void readMan() {
            int kind = readKind();
            int paint = readDigit();
            int inch = FALLEN;
            if (isNext('@')) {
                readSign('@');
                inch = readNumber(INCHES - 1, told.inchesTaken());
            }
            if (!faulty) {
                told.enlist(kind, paint, inch);
            }
        }

        /** From here on each step reads nothing behind a fault, so that the place stays where the fault is. */
        private int readKind() {
            skipBlanks();
            int kind = isThere() ? KIND_LETTERS.indexOf(letters[place]) : -1;
            if (kind < 0) {
                faulty = true;
                return PLAIN;
            }
            place++;
            return kind;
        }

        private int readDigit() {
            skipBlanks();
            if (!isDigitThere()) {
                faulty = true;
                return 0;
            }
            int digit = letters[place] - '0';
            place++;
            return digit;
        }

        private int readNumber(int most, int barred) {
            skipBlanks();
            int first = place;
            int number = readDigit();
            if (isDigitThere()) {
                number = 10 * number + readDigit();
            }
            if (!faulty && (number > most || (barred >> number & 1) != 0)) {
                faulty = true;
                place = first;
            }
            return number;
        }

        private void readSign(char sign) {
            if (isNext(sign)) {
                place++;
            } else {
                faulty = true;
            }
        }

        private boolean isNext(char sign) {
            skipBlanks();
            return isThere() && letters[place] == sign;
        }

        private boolean isThere() {
            return !faulty && place < length;
        }

        private boolean isDigitThere() {
            return !faulty && place < length && letters[place] >= '0' && letters[place] <= '9';
        }

        private boolean isAtEnd() {
            skipBlanks();
            return faulty || place >= length;
        }

        private void skipBlanks() {
            if (!faulty) {
                while (place < length && letters[place] == ' ') {
                    place++;
                }
            }
        }
    }

    /** A sheet: nothing, or items of a lane, kept in longs cut to the lane's bits. */
    private static final class Row {
        private static final int NO_LANE = -1;

        final long[] items = new long[MOST_ITEMS];
        int lane = NO_LANE;
        int size;
        int from;
        int marked;

        boolean isMissing() {
            return lane == NO_LANE;
        }

        void begin(int newLane, int n) {
            lane = newLane;
            size = n;
            Arrays.fill(items, 0L);
        }

        void end() {
            lane = NO_LANE;
        }

        boolean hasItems(int i, int n) {
            return i >= 0 && n >= 0 && i <= size - n;
        }

        /** Why n items from i on can't be taken as of this lane, or 0. */
        int refusal(int asLane, int i, int n) {
            if (isMissing()) {
                return NULL;
            }
            if (lane != asLane) {
                return CAST;
            }
            return hasItems(i, n) ? 0 : INDEX;
        }

        /** The n items from i on, which are there, are the ones that a call goes through. */
        void mark(int i, int n) {
            from = i;
            marked = n;
        }

        void write(int i, long v) {
            switch (lane) {
                case 0: items[i] = (byte) v; break;
                case 1: items[i] = (short) v; break;
                case 2: items[i] = (int) v; break;
                default: items[i] = v; break;
            }
        }
    }
}
