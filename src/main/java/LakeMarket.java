import java.util.Arrays;

/** A lowland in which lakes are traded: told as a text on a tape, asked and changed by calls. */
public final class LakeMarket {
    public static final int NONE = -1;
    public static final int NOTHING = -1000000000;

    private static final int TAPE = 1600;
    private static final int FED = 20;

    private static final int HOLLOWS = 8;
    private static final int OWNERS = 6;
    private static final int LAKES = 8;
    private static final int STATEMENTS = 80;
    private static final int OPEN_AT_ONCE = 7;

    private static final int LAST_NIGHT = 9999;
    private static final int NIGHTS_AT_ONCE = 100;
    private static final int MOST_BARRELS = 999;
    private static final int MOST_WORTH = 9999;
    private static final int MOST_PRICE = 9999;
    private static final int MOST_DEBT = 9999;
    private static final int MOST_TOLD_DEBT = 999;
    private static final int MOST_PLACE = 99;
    private static final int HUNDRED = 100;
    private static final int NOBODY_CAME = 256;

    private static final int REFUSED_TAPE = 0;
    private static final int REFUSED_LOWLAND = 1;
    private static final int REFUSED_NIGHTS = 2;
    private static final int REFUSED_ACT = 3;
    private static final int REFUSED_UNDO = 4;
    private static final int REFUSED_OTHER = 5;

    private static final int FAULT_FORM = 1;
    private static final int FAULT_NAME_TAKEN = 2;
    private static final int FAULT_NAME_WRONG = 3;
    private static final int FAULT_NUMBER = 4;
    private static final int FAULT_TOO_DEEP = 5;
    private static final int FAULT_TOO_MANY = 6;

    /** Each own word has eight places, so that its number times eight is where it stands. */
    private static final String OWN_WORDS = "hollow  holds   at      owner   lake    has     in      of      owes    leaks   worth   may     carts   night   beside  steps   free    if      or      and     not     all     min     max     drought ";
    private static final int OWN_WIDTH = 8;
    private static final int OWN_COUNT = 25;

    private static final int WORD_HOLLOW = 0;
    private static final int WORD_HOLDS = 1;
    private static final int WORD_AT = 2;
    private static final int WORD_OWNER = 3;
    private static final int WORD_LAKE = 4;
    private static final int WORD_HAS = 5;
    private static final int WORD_IN = 6;
    private static final int WORD_OF = 7;
    private static final int WORD_OWES = 8;
    private static final int WORD_LEAKS = 9;
    private static final int WORD_WORTH = 10;
    private static final int WORD_MAY = 11;
    private static final int WORD_CARTS = 12;
    private static final int WORD_NIGHT = 13;
    private static final int WORD_BESIDE = 14;
    private static final int WORD_STEPS = 15;
    private static final int WORD_FREE = 16;
    private static final int WORD_IF = 17;
    private static final int WORD_OR = 18;
    private static final int WORD_AND = 19;
    private static final int WORD_NOT = 20;
    private static final int WORD_ALL = 21;
    private static final int WORD_MIN = 22;
    private static final int WORD_MAX = 23;
    private static final int WORD_DROUGHT = 24;

    private static final int RULE_LEAKS = 0;
    private static final int RULE_WORTH = 1;
    private static final int RULE_MAY = 2;

    /** What a rule's code holds: a number from 0 on is itself, what is below 0 one of these. */
    private static final int GET_HAS = -1;
    private static final int GET_NIGHT = -2;
    private static final int GET_BESIDE = -3;
    private static final int GET_DROUGHT = -4;
    private static final int GET_STEPS = -5;
    private static final int GET_FREE = -6;
    private static final int DO_NOT = -7;
    private static final int DO_CHOOSE = -8;
    private static final int DO_ADD = -9;
    private static final int DO_LESS = -10;
    private static final int DO_TIMES = -11;
    private static final int DO_OVER = -12;
    private static final int DO_REST = -13;
    private static final int DO_MIN = -14;
    private static final int DO_MAX = -15;
    private static final int DO_BELOW = -16;
    private static final int DO_ABOVE = -17;
    private static final int DO_EQUAL = -18;
    private static final int DO_AND = -19;
    private static final int DO_OR = -20;

    private final int[] tape = new int[TAPE];
    private int taped;
    private Lowland told = new Lowland();
    private Lowland draft = new Lowland();
    private final Reader reader = new Reader(tape);
    private int faultKind;
    private int faultPlace = NONE;
    private final Scene now = new Scene();
    private final Scene ahead = new Scene();
    private final History past = new History();
    private final Payments payments = new Payments();
    private final Chooser chooser = new Chooser();
    private final Mover mover = new Mover();
    private final Picture picture = new Picture();
    private final int[] stoodLakes = new int[LAKES];
    private final int[] stoodBarrels = new int[LAKES];
    private int stoodRows;
    private int lot = 1;
    private final int[] refused = new int[REFUSED_OTHER + 1];

    public LakeMarket() {
        now.begin(told);
        ahead.begin(told);
    }

    public int feed(int a, int b, int c, int d, int e) {
        if (taped + FED > TAPE) {
            return refuse(REFUSED_TAPE);
        }
        putFour(a);
        putFour(b);
        putFour(c);
        putFour(d);
        putFour(e);
        return taped;
    }

    private void putFour(int word) {
        for (int shift = 24; shift >= 0 && taped < TAPE; shift -= 8) {
            tape[taped] = (word >>> shift) & 255;
            taped++;
        }
    }

    public boolean end(int n) {
        if (n < 0 || n > taped) {
            refuse(REFUSED_TAPE);
            return false;
        }
        taped = n;
        return true;
    }

    private int takeTape() {
        int size = taped;
        taped = 0;
        return size;
    }

    private int refuse(int kind) {
        refused[kind]++;
        return NONE;
    }

    public int lowland() {
        int size = takeTape();
        if (!reader.readAll(size, draft)) {
            faultKind = reader.tokens.faultKind;
            faultPlace = reader.tokens.faultPlace;
            return refuse(REFUSED_LOWLAND);
        }
        Lowland old = told;
        told = draft;
        draft = old;
        faultKind = 0;
        faultPlace = NONE;
        now.begin(told);
        forgetActs();
        stoodRows = 0;
        return told.statements;
    }

    private void forgetActs() {
        past.forget();
        payments.total = 0;
    }

    public int fault(int what) {
        if (what == 0) {
            return faultKind;
        }
        return what == 1 ? faultPlace : NONE;
    }

    public int has(int what) {
        switch (what) {
            case 0: return told.hollows;
            case 1: return told.owners;
            case 2: return told.lakes;
            case 3: return now.night;
            case 4: return now.standing();
            case 5: return now.allBarrels();
            case 6: return now.worthOfAll();
            case 7: return now.allDebts();
            case 8: return payments.count();
            case 9: return past.depth;
            case 10: return lot;
            default: return NONE;
        }
    }

    public int letter(int kind, int which, int k) {
        if (k < 0 || k > 5) {
            return NONE;
        }
        if (kind == 0 && now.isHollow(which)) {
            return told.letterOf(told.hollowNames[which], k);
        }
        if (kind == 1 && now.isOwner(which)) {
            return told.letterOf(told.ownerNames[which], k);
        }
        if (kind == 2 && now.isLake(which)) {
            return told.letterOf(told.lakeNames[which], k);
        }
        return NONE;
    }

    public int hollow(int hollow, int what) {
        if (!now.isHollow(hollow)) {
            return NONE;
        }
        switch (what) {
            case 0: return told.holds[hollow];
            case 1: return told.places[hollow];
            case 2: return now.roomIn(hollow);
            case 3: return now.lakesIn(hollow);
            default: return NONE;
        }
    }

    public int lake(int lake, int what) {
        if (!now.isLake(lake)) {
            return NONE;
        }
        switch (what) {
            case 0: return now.barrels[lake];
            case 1: return now.lies[lake];
            case 2: return now.whose[lake];
            case 3: return now.worthOf(lake);
            case 4: return now.leakOf(lake, 0);
            default: return NONE;
        }
    }

    public int owner(int owner, int what) {
        if (!now.isOwner(owner)) {
            return NONE;
        }
        switch (what) {
            case 0: return now.lakesOf(owner);
            case 1: return now.worthOfOwner(owner);
            case 2: return now.owedBy(owner);
            case 3: return now.owedTo(owner);
            case 4: return now.isBroke(owner) ? 1 : 0;
            default: return NONE;
        }
    }

    public int owes(int owner, int other) {
        if (!now.areTwoOwners(owner, other)) {
            return NONE;
        }
        return now.debts[owner * OWNERS + other];
    }

    // ---- ahead

    private boolean nightsCanBe(int n) {
        return n >= 0 && n <= NIGHTS_AT_ONCE && now.night + n <= LAST_NIGHT;
    }

    public int later(int n, int lake) {
        if (!nightsCanBe(n) || (lake != NONE && !now.isLake(lake))) {
            return NONE;
        }
        ahead.copyFrom(now);
        for (int i = 0; i < n; i++) {
            ahead.passNight(0);
        }
        return lake == NONE ? ahead.worthOfAll() : ahead.barrels[lake];
    }

    public int broke(int owner) {
        if (!now.isOwner(owner) || now.owedBy(owner) == 0) {
            return NONE;
        }
        ahead.copyFrom(now);
        for (int n = 0; n <= NIGHTS_AT_ONCE && nightsCanBe(n); n++) {
            if (ahead.isBroke(owner)) {
                return n;
            }
            ahead.passNight(0);
        }
        return NONE;
    }

    public int spend(int lake, int what) {
        if (!now.stands(lake) || what < 0 || what > 1) {
            return NONE;
        }
        ahead.copyFrom(now);
        int best = NONE;
        int bestNight = 0;
        for (int n = 0; n <= NIGHTS_AT_ONCE && nightsCanBe(n); n++) {
            int worth = ahead.worthOf(lake);
            if (worth > best) {
                best = worth;
                bestNight = n;
            }
            ahead.passNight(0);
        }
        return what == 0 ? bestNight : best;
    }

    // ---- prices, moves, packings

    public int price(int owner, int price, int what) {
        if (!now.isOwner(owner) || price < 0 || price > MOST_PRICE || what < 0 || what > 1) {
            return NONE;
        }
        int bits = chooser.payers(now, owner, price);
        return what == 0 || bits == NONE ? bits : chooser.excess;
    }

    public int moves() {
        int size = takeTape();
        if (!mover.takeRows(tape, size, now)) {
            return refuse(REFUSED_OTHER);
        }
        ahead.copyFrom(now);
        return mover.fewest(ahead);
    }

    public int pack(int owner, int what) {
        if (!now.isOwner(owner) || what < 0 || what > 1) {
            return NONE;
        }
        int packing = chooser.packing(now, owner);
        if (packing == NONE) {
            return NONE;
        }
        return what == 0 ? packing % Chooser.SUBSETS : packing / Chooser.SUBSETS;
    }

    // ---- debts, shares

    public int net(int owner) {
        return now.isOwner(owner) ? now.netOf(owner) : NOTHING;
    }

    public int settling() {
        return chooser.payments(now);
    }

    public int share(int owner, int heirs, int lake) {
        if (!now.isOwner(owner) || heirs < 2 || heirs > 3) {
            return NONE;
        }
        if (lake == NONE) {
            return chooser.fairest(now, owner, heirs);
        }
        if (!now.stands(lake) || now.whose[lake] != owner) {
            return NONE;
        }
        chooser.fairest(now, owner, heirs);
        return chooser.heirOf(lake);
    }

    // ---- thieves

    public int stood() {
        int size = takeTape();
        if (!tellsStood(size)) {
            return refuse(REFUSED_OTHER);
        }
        stoodRows = size / 3;
        for (int row = 0; row < stoodRows; row++) {
            stoodLakes[row] = tape[row * 3];
            stoodBarrels[row] = tape[row * 3 + 1] * 256 + tape[row * 3 + 2];
        }
        return stoodRows;
    }

    private boolean tellsStood(int size) {
        if (size < 3 || size > 3 * LAKES || size % 3 != 0) {
            return false;
        }
        for (int at = 0; at < size; at += 3) {
            if (!now.isLake(tape[at]) || tape[at + 1] * 256 + tape[at + 2] > MOST_BARRELS) {
                return false;
            }
        }
        return true;
    }

    public int robbed(int barrels) {
        if (stoodRows == 0 || barrels < 1 || barrels > MOST_BARRELS) {
            return NONE;
        }
        ahead.copyFrom(now);
        ahead.passNight(0);
        int bits = stoodIfTaken(NONE, 0) ? NOBODY_CAME : 0;
        for (int lake = 0; lake < told.lakes; lake++) {
            if (ahead.stands(lake) && stoodIfTaken(lake, barrels)) {
                bits |= 1 << lake;
            }
        }
        return bits;
    }

    private boolean stoodIfTaken(int robbedLake, int taken) {
        for (int row = 0; row < stoodRows; row++) {
            int left = ahead.barrels[stoodLakes[row]];
            if (stoodLakes[row] == robbedLake) {
                left = Math.max(0, left - taken);
            }
            if (left != stoodBarrels[row]) {
                return false;
            }
        }
        return true;
    }

    // ---- acts

    private void remember() {
        past.push(now, payments.total);
    }

    public int nights(int n) {
        if (n < 1 || !nightsCanBe(n)) {
            return refuse(REFUSED_NIGHTS);
        }
        remember();
        int leaked = 0;
        for (int i = 0; i < n; i++) {
            leaked += now.passNight(0);
        }
        return leaked;
    }

    public int chance(int n) {
        if (n < 1 || !nightsCanBe(n)) {
            return refuse(REFUSED_NIGHTS);
        }
        remember();
        int droughts = 0;
        for (int i = 0; i < n; i++) {
            int drought = draw(HUNDRED) < told.drought ? 1 : 0;
            droughts += drought;
            now.passNight(drought);
        }
        return droughts;
    }

    private int draw(int m) {
        lot = (1103515245 * lot + 12345) & 0x7fffffff;
        return m > 0 ? (lot / 64) % m : 0;
    }

    public boolean move(int lake, int hollow) {
        if (!now.canMove(lake, hollow)) {
            refuse(REFUSED_ACT);
            return false;
        }
        remember();
        now.lies[lake] = hollow;
        return true;
    }

    public int pour(int first, int second) {
        if (!now.canPour(first, second)) {
            return refuse(REFUSED_ACT);
        }
        remember();
        now.barrels[first] += now.barrels[second];
        now.setBarrels(second, 0);
        return now.barrels[first];
    }

    public int part(int lake, int barrels) {
        int fresh = now.firstGone();
        if (!now.stands(lake) || fresh == NONE || barrels < 1 || barrels >= now.barrels[lake]) {
            return refuse(REFUSED_ACT);
        }
        remember();
        now.barrels[lake] -= barrels;
        now.barrels[fresh] = barrels;
        now.lies[fresh] = now.lies[lake];
        now.whose[fresh] = now.whose[lake];
        return fresh;
    }

    public int pay(int owner, int other, int lakes) {
        if (!now.areTwoOwners(owner, other) || lakes <= 0 || (lakes & ~now.lakesOf(owner)) != 0) {
            return refuse(REFUSED_ACT);
        }
        int worth = now.worthOfBits(lakes);
        int debt = now.debts[owner * OWNERS + other];
        int back = now.debts[other * OWNERS + owner] + Math.max(0, worth - debt);
        if (back > MOST_DEBT) {
            return refuse(REFUSED_ACT);
        }
        remember();
        now.debts[owner * OWNERS + other] = Math.max(0, debt - worth);
        now.debts[other * OWNERS + owner] = back;
        now.give(lakes, other);
        payments.add(now.night, owner, other, worth);
        return worth;
    }

    public int strike() {
        int size = takeTape();
        if (!isRing(size)) {
            return refuse(REFUSED_ACT);
        }
        int least = MOST_DEBT;
        for (int k = 0; k < size; k++) {
            least = Math.min(least, now.debts[debtInRing(k, size)]);
        }
        if (least == 0) {
            return refuse(REFUSED_ACT);
        }
        remember();
        for (int k = 0; k < size; k++) {
            now.debts[debtInRing(k, size)] -= least;
        }
        return least;
    }

    private boolean isRing(int size) {
        if (size < 2 || size > OWNERS) {
            return false;
        }
        int seen = 0;
        for (int k = 0; k < size; k++) {
            if (!now.isOwner(tape[k]) || (seen & (1 << tape[k])) != 0) {
                return false;
            }
            seen |= 1 << tape[k];
        }
        return true;
    }

    private int debtInRing(int k, int size) {
        int next = k + 1 < size ? k + 1 : 0;
        return tape[k] * OWNERS + tape[next];
    }

    public boolean undo() {
        if (past.depth == 0) {
            refuse(REFUSED_UNDO);
            return false;
        }
        payments.total = past.pop(now);
        return true;
    }

    public boolean seed(int seed) {
        if (seed < 0) {
            refuse(REFUSED_OTHER);
            return false;
        }
        lot = seed;
        return true;
    }

    public int kept(int k, int what) {
        if (k < 0 || k >= payments.count() || what < 0 || what > 3) {
            return NONE;
        }
        return payments.tell(k, what);
    }

    // ---- images, refusals

    public int image() {
        picture.draw(now);
        return picture.size;
    }

    public int octet(int k) {
        return k < 0 || k >= picture.size ? NONE : picture.bytes[k];
    }

    public boolean on() {
        int size = takeTape();
        ahead.copyFrom(now);
        if (!picture.restores(tape, size, ahead)) {
            refuse(REFUSED_OTHER);
            return false;
        }
        now.copyFrom(ahead);
        forgetActs();
        return true;
    }

    public int status(int what) {
        return what < 0 || what > REFUSED_OTHER ? NONE : refused[what];
    }

    /** What a text tells: all that stays the same until the next one. */
    private static final class Lowland {
        int statements;
        int hollows;
        int owners;
        int lakes;
        int drought;
        int carts = MOST_BARRELS;
        final int[] hollowNames = new int[HOLLOWS];
        final int[] ownerNames = new int[OWNERS];
        final int[] lakeNames = new int[LAKES];
        final int[] holds = new int[HOLLOWS];
        final int[] places = new int[HOLLOWS];
        final int[] barrels = new int[LAKES];
        final int[] lies = new int[LAKES];
        final int[] whose = new int[LAKES];
        final int[] debts = new int[OWNERS * OWNERS];
        final int[] code = new int[TAPE];
        int coded;
        final int[] ruleFrom = new int[3];
        final int[] ruleTo = new int[3];

        void clear() {
            statements = 0;
            hollows = 0;
            owners = 0;
            lakes = 0;
            drought = 0;
            carts = MOST_BARRELS;
            coded = 0;
            Arrays.fill(debts, 0);
            Arrays.fill(ruleFrom, 0);
            Arrays.fill(ruleTo, 0);
        }

        boolean hasRule(int rule) {
            return ruleTo[rule] > ruleFrom[rule];
        }

        boolean emit(int op) {
            if (coded >= TAPE) {
                return false;
            }
            code[coded] = op;
            coded++;
            return true;
        }

        int find(int[] names, int count, int name) {
            for (int i = 0; i < count; i++) {
                if (names[i] == name) {
                    return i;
                }
            }
            return NONE;
        }

        int findHollow(int name) {
            return find(hollowNames, hollows, name);
        }

        int findOwner(int name) {
            return find(ownerNames, owners, name);
        }

        boolean isTaken(int name) {
            return find(hollowNames, hollows, name) != NONE || find(ownerNames, owners, name) != NONE
                    || find(lakeNames, lakes, name) != NONE;
        }

        int letterOf(int name, int k) {
            return (name >>> (5 * k)) & 31;
        }

        int roomAtFirst(int hollow) {
            int room = holds[hollow];
            for (int lake = 0; lake < lakes; lake++) {
                if (lies[lake] == hollow) {
                    room -= barrels[lake];
                }
            }
            return room;
        }
    }

    /** The text on the tape, one word, number or sign at a time. */
    private static final class Tokens {
        static final int END = 0;
        static final int NAME = 1;
        static final int OWN = 2;
        static final int NUMBER = 3;
        static final int SIGN = 4;
        static final int BAD = 5;

        private final int[] tape;
        private int size;
        private int next;
        int kind;
        int from;
        /** Where fault 1 is if this one can't stand here; it is not always the first byte. */
        int place;
        /** The number, the sign, the own word's number, or the letters of a name, five bits each. */
        int value;
        int faultKind;
        int faultPlace;

        Tokens(int[] tape) {
            this.tape = tape;
        }

        void begin(int length) {
            size = length;
            next = 0;
            kind = END;
            advance();
        }

        boolean isSign(int sign) {
            return kind == SIGN && value == sign;
        }

        boolean isOwn(int word) {
            return kind == OWN && value == word;
        }

        boolean needSign(int sign) {
            return isSign(sign) || failForm();
        }

        boolean needOwn(int word) {
            return isOwn(word) || failForm();
        }

        boolean needKind(int wanted) {
            return kind == wanted || failForm();
        }

        /** A fault at the first byte of what stands here; always false. */
        boolean fail(int fault) {
            faultKind = fault;
            faultPlace = from;
            return false;
        }

        /** What stands here can't stand here; always false. */
        boolean failForm() {
            faultKind = FAULT_FORM;
            faultPlace = place;
            return false;
        }

        /** Goes to the next one; always true, so that it can stand among what must hold. */
        boolean advance() {
            boolean behindText = isText();
            int before = next;
            while (next < size && (tape[next] == 32 || tape[next] == 10)) {
                next++;
            }
            from = next;
            place = next;
            if (next >= size) {
                kind = END;
            } else if (isLetter(tape[next])) {
                readWord();
            } else if (isDigit(tape[next])) {
                readNumber();
            } else {
                kind = SIGN;
                value = tape[next];
                next++;
            }
            if (behindText && from == before && isText()) {
                // the missing blank comes ahead of a letter or digit too many
                kind = BAD;
                place = from;
            }
            return true;
        }

        /** Whether a word or a number stands here, one that is too long, too. */
        private boolean isText() {
            return kind != END && kind != SIGN;
        }

        private static boolean isLetter(int octet) {
            return octet >= 'a' && octet <= 'z';
        }

        private static boolean isDigit(int octet) {
            return octet >= '0' && octet <= '9';
        }

        private void readWord() {
            while (next < size && isLetter(tape[next])) {
                next++;
            }
            int length = next - from;
            int own = findOwn(length);
            if (own != NONE) {
                kind = OWN;
                value = own;
            } else if (length > 6) {
                kind = BAD;
                place = from + 6;
            } else {
                kind = NAME;
                value = packName(length);
            }
        }

        private int packName(int length) {
            int name = 0;
            for (int k = 0; k < length; k++) {
                name |= (tape[from + k] - 'a' + 1) << (5 * k);
            }
            return name;
        }

        private int findOwn(int length) {
            for (int word = 0; word < OWN_COUNT && length < OWN_WIDTH; word++) {
                int at = word * OWN_WIDTH;
                int same = 0;
                while (same < length && OWN_WORDS.charAt(at + same) == tape[from + same]) {
                    same++;
                }
                if (same == length && OWN_WORDS.charAt(at + length) == ' ') {
                    return word;
                }
            }
            return NONE;
        }

        private void readNumber() {
            int number = 0;
            while (next < size && isDigit(tape[next])) {
                if (next - from < 4) {
                    number = number * 10 + tape[next] - '0';
                }
                next++;
            }
            kind = NUMBER;
            value = number;
            if (next - from > 4) {
                kind = BAD;
                place = from + 4;
            }
        }
    }

    /** Reads a text into a lowland; each method answers whether all went well so far. */
    private static final class Reader {
        final Tokens tokens;
        private final RuleReader rules;
        private Lowland land;
        private int taken;

        Reader(int[] tape) {
            tokens = new Tokens(tape);
            rules = new RuleReader(tokens);
        }

        boolean readAll(int size, Lowland into) {
            land = into;
            land.clear();
            tokens.begin(size);
            for (int i = 0; i <= STATEMENTS && tokens.kind != Tokens.END; i++) {
                if (!readStatement()) {
                    return false;
                }
            }
            return true;
        }

        private boolean readStatement() {
            if (land.statements == STATEMENTS) {
                return tokens.fail(FAULT_TOO_MANY);
            }
            if (!tokens.needKind(Tokens.OWN)) {
                return false;
            }
            if (isOneTooMany(tokens.value)) {
                return tokens.fail(FAULT_TOO_MANY);
            }
            boolean good;
            switch (tokens.value) {
                case WORD_HOLLOW: good = readHollow(); break;
                case WORD_OWNER: good = readOwner(); break;
                case WORD_LAKE: good = readLake(); break;
                case WORD_OWES: good = readDebt(); break;
                case WORD_LEAKS: good = rules.readRule(RULE_LEAKS, land); break;
                case WORD_WORTH: good = rules.readRule(RULE_WORTH, land); break;
                case WORD_MAY: good = rules.readRule(RULE_MAY, land); break;
                case WORD_DROUGHT: good = readDrought(); break;
                case WORD_CARTS: good = readCarts(); break;
                default: good = tokens.failForm(); break;
            }
            if (!good || !tokens.needSign(';')) {
                return false;
            }
            land.statements++;
            return tokens.advance();
        }

        private boolean isOneTooMany(int word) {
            switch (word) {
                case WORD_HOLLOW: return land.hollows >= HOLLOWS;
                case WORD_OWNER: return land.owners >= OWNERS;
                case WORD_LAKE: return land.lakes >= LAKES;
                case WORD_LEAKS: return land.hasRule(RULE_LEAKS);
                case WORD_WORTH: return land.hasRule(RULE_WORTH);
                case WORD_MAY: return land.hasRule(RULE_MAY);
                default: return false;
            }
        }

        private boolean readHollow() {
            tokens.advance();
            if (!takeNewName()) {
                return false;
            }
            int name = taken;
            if (!takeWord(WORD_HOLDS) || !takeNumber(1, MOST_BARRELS)) {
                return false;
            }
            int holds = taken;
            if (!takeWord(WORD_AT) || !takeNumber(0, MOST_PLACE)) {
                return false;
            }
            land.hollowNames[land.hollows] = name;
            land.holds[land.hollows] = holds;
            land.places[land.hollows] = taken;
            land.hollows++;
            return true;
        }

        private boolean readOwner() {
            tokens.advance();
            if (!takeNewName()) {
                return false;
            }
            land.ownerNames[land.owners] = taken;
            land.owners++;
            return true;
        }

        private boolean readLake() {
            tokens.advance();
            if (!takeNewName()) {
                return false;
            }
            int name = taken;
            if (!takeWord(WORD_HAS) || !takeNumber(1, MOST_BARRELS)) {
                return false;
            }
            int barrels = taken;
            if (!takeWord(WORD_IN) || !takeHollowWithRoom(barrels)) {
                return false;
            }
            int hollow = taken;
            if (!takeWord(WORD_OF) || !takeOwnerBut(NONE)) {
                return false;
            }
            land.lakeNames[land.lakes] = name;
            land.barrels[land.lakes] = barrels;
            land.lies[land.lakes] = hollow;
            land.whose[land.lakes] = taken;
            land.lakes++;
            return true;
        }

        private boolean readDebt() {
            tokens.advance();
            if (!takeOwnerBut(NONE)) {
                return false;
            }
            int owner = taken;
            if (!takeOwnerBut(owner)) {
                return false;
            }
            int other = taken;
            if (!takeNumber(0, MOST_TOLD_DEBT)) {
                return false;
            }
            land.debts[owner * OWNERS + other] = taken;
            return true;
        }

        private boolean readDrought() {
            tokens.advance();
            if (!takeNumber(0, HUNDRED)) {
                return false;
            }
            land.drought = taken;
            return true;
        }

        private boolean readCarts() {
            tokens.advance();
            if (!takeNumber(1, MOST_BARRELS)) {
                return false;
            }
            land.carts = taken;
            return true;
        }

        private boolean takeWord(int word) {
            return tokens.needOwn(word) && tokens.advance();
        }

        private boolean takeNumber(int least, int most) {
            if (!tokens.needKind(Tokens.NUMBER)) {
                return false;
            }
            taken = tokens.value;
            if (taken < least || taken > most) {
                return tokens.fail(FAULT_NUMBER);
            }
            return tokens.advance();
        }

        private boolean takeNewName() {
            if (!tokens.needKind(Tokens.NAME)) {
                return false;
            }
            taken = tokens.value;
            if (land.isTaken(taken)) {
                return tokens.fail(FAULT_NAME_TAKEN);
            }
            return tokens.advance();
        }

        private boolean takeHollowWithRoom(int barrels) {
            if (!tokens.needKind(Tokens.NAME)) {
                return false;
            }
            taken = land.findHollow(tokens.value);
            if (taken == NONE || land.roomAtFirst(taken) < barrels) {
                return tokens.fail(FAULT_NAME_WRONG);
            }
            return tokens.advance();
        }

        private boolean takeOwnerBut(int notThisOne) {
            if (!tokens.needKind(Tokens.NAME)) {
                return false;
            }
            taken = land.findOwner(tokens.value);
            if (taken == NONE || taken == notThisOne) {
                return tokens.fail(FAULT_NAME_WRONG);
            }
            return tokens.advance();
        }
    }

    /** Reads sums and tests into a lowland's code, operands ahead of what is done with them. */
    private static final class RuleReader {
        private final Tokens tokens;
        private Lowland land;
        private int rule;

        RuleReader(Tokens tokens) {
            this.tokens = tokens;
        }

        boolean readRule(int which, Lowland into) {
            rule = which;
            land = into;
            int from = land.coded;
            tokens.advance();
            if (!(rule == RULE_MAY ? readTest(0) : readSum(0))) {
                return false;
            }
            land.ruleFrom[rule] = from;
            land.ruleTo[rule] = land.coded;
            return true;
        }

        /** Whether one more may be open where so many are. */
        private boolean mayOpen(int open) {
            return open < OPEN_AT_ONCE || tokens.fail(FAULT_TOO_DEEP);
        }

        private boolean readTest(int open) {
            boolean good = readBoth(open);
            for (int i = 0; i < TAPE && good && tokens.isOwn(WORD_OR); i++) {
                tokens.advance();
                good = readBoth(open) && land.emit(DO_OR);
            }
            return good;
        }

        private boolean readBoth(int open) {
            boolean good = readFact(open);
            for (int i = 0; i < TAPE && good && tokens.isOwn(WORD_AND); i++) {
                tokens.advance();
                good = readFact(open) && land.emit(DO_AND);
            }
            return good;
        }

        private boolean readFact(int open) {
            if (tokens.isOwn(WORD_NOT)) {
                return mayOpen(open) && tokens.advance() && readFact(open + 1) && land.emit(DO_NOT);
            }
            if (tokens.isSign('[')) {
                return mayOpen(open) && tokens.advance() && readTest(open + 1)
                        && tokens.needSign(']') && tokens.advance();
            }
            if (tokens.isOwn(WORD_ALL)) {
                return tokens.advance() && land.emit(1);
            }
            if (!readSum(open)) {
                return false;
            }
            int op = compareOp();
            if (op == 0) {
                return tokens.failForm();
            }
            return tokens.advance() && readSum(open) && land.emit(op);
        }

        private int compareOp() {
            if (tokens.isSign('<')) {
                return DO_BELOW;
            }
            if (tokens.isSign('>')) {
                return DO_ABOVE;
            }
            return tokens.isSign('=') ? DO_EQUAL : 0;
        }

        private boolean readSum(int open) {
            boolean good = readProduct(open);
            for (int i = 0; i < TAPE && good && addOp() != 0; i++) {
                int op = addOp();
                good = tokens.advance() && readProduct(open) && land.emit(op);
            }
            return good;
        }

        private int addOp() {
            if (tokens.isSign('+')) {
                return DO_ADD;
            }
            return tokens.isSign('-') ? DO_LESS : 0;
        }

        private boolean readProduct(int open) {
            boolean good = readPart(open);
            for (int i = 0; i < TAPE && good && timesOp() != 0; i++) {
                int op = timesOp();
                good = tokens.advance() && readPart(open) && land.emit(op);
            }
            return good;
        }

        private int timesOp() {
            if (tokens.isSign('*')) {
                return DO_TIMES;
            }
            if (tokens.isSign('/')) {
                return DO_OVER;
            }
            return tokens.isSign('%') ? DO_REST : 0;
        }

        private boolean readPart(int open) {
            if (tokens.kind == Tokens.NUMBER) {
                return land.emit(tokens.value) && tokens.advance();
            }
            if (tokens.isSign('(')) {
                return mayOpen(open) && tokens.advance() && readSum(open + 1) && tokens.needSign(')') && tokens.advance();
            }
            if (!tokens.needKind(Tokens.OWN)) {
                return false;
            }
            switch (tokens.value) {
                case WORD_MIN: return readPair(open, DO_MIN);
                case WORD_MAX: return readPair(open, DO_MAX);
                case WORD_IF: return readChoice(open);
                default: break;
            }
            int op = figureOp(tokens.value);
            return op == 0 ? tokens.failForm() : land.emit(op) && tokens.advance();
        }

        private boolean readPair(int open, int op) {
            return tokens.advance() && tokens.needSign('(') && mayOpen(open) && tokens.advance() && readSum(open + 1)
                    && tokens.needSign(',') && tokens.advance() && readSum(open + 1)
                    && tokens.needSign(')') && tokens.advance() && land.emit(op);
        }

        private boolean readChoice(int open) {
            return tokens.advance() && tokens.needSign('(') && mayOpen(open) && tokens.advance() && readTest(open + 1)
                    && tokens.needSign(',') && tokens.advance() && readSum(open + 1)
                    && tokens.needSign(',') && tokens.advance() && readSum(open + 1)
                    && tokens.needSign(')') && tokens.advance() && land.emit(DO_CHOOSE);
        }

        private int figureOp(int word) {
            switch (word) {
                case WORD_HAS: return GET_HAS;
                case WORD_NIGHT: return GET_NIGHT;
                case WORD_BESIDE: return GET_BESIDE;
                case WORD_DROUGHT: return rule == RULE_LEAKS ? GET_DROUGHT : 0;
                case WORD_STEPS: return rule == RULE_MAY ? GET_STEPS : 0;
                case WORD_FREE: return rule == RULE_MAY ? GET_FREE : 0;
                default: return 0;
            }
        }
    }

    /** Works out a rule's code for the figures it is given. */
    private static final class Machine {
        private static final int STACK = 128;
        private static final int LIMIT = 1000000;

        private final int[] stack = new int[STACK];
        private int height;
        private final int[] figures = new int[6];

        void setLake(int has, int night, int beside) {
            figures[-1 - GET_HAS] = has;
            figures[-1 - GET_NIGHT] = night;
            figures[-1 - GET_BESIDE] = beside;
        }

        void setDrought(int drought) {
            figures[-1 - GET_DROUGHT] = drought;
        }

        void setWay(int steps, int free) {
            figures[-1 - GET_STEPS] = steps;
            figures[-1 - GET_FREE] = free;
        }

        int run(Lowland land, int rule) {
            height = 0;
            int to = Math.min(land.ruleTo[rule], TAPE);
            for (int i = Math.max(0, land.ruleFrom[rule]); i < to; i++) {
                step(land.code[i]);
            }
            return pop();
        }

        private void step(int op) {
            if (op >= 0) {
                push(op);
            } else if (op >= GET_FREE) {
                push(figures[-1 - op]);
            } else if (op == DO_NOT) {
                push(1 - pop());
            } else if (op == DO_CHOOSE) {
                int second = pop();
                int first = pop();
                push(pop() != 0 ? first : second);
            } else {
                int right = pop();
                push(limited(combine(op, pop(), right)));
            }
        }

        private void push(int value) {
            if (height < STACK) {
                stack[height] = value;
                height++;
            }
        }

        private int pop() {
            if (height == 0) {
                return 0;
            }
            height--;
            return stack[height];
        }

        private static long combine(int op, long left, long right) {
            switch (op) {
                case DO_ADD: return left + right;
                case DO_LESS: return left - right;
                case DO_TIMES: return left * right;
                case DO_OVER: return right == 0 ? 0 : Math.floorDiv(left, right);
                case DO_REST: return right == 0 ? 0 : Math.floorMod(left, right);
                case DO_MIN: return Math.min(left, right);
                case DO_MAX: return Math.max(left, right);
                case DO_BELOW: return left < right ? 1 : 0;
                case DO_ABOVE: return left > right ? 1 : 0;
                case DO_EQUAL: return left == right ? 1 : 0;
                case DO_AND: return left & right;
                default: return left | right;
            }
        }

        private static int limited(long value) {
            return (int) Math.max(-LIMIT, Math.min(LIMIT, value));
        }
    }

    /** How all lies and is owed in one night; what is told of it never changes it but where that is said. */
    private static final class Scene {
        private static final int ROW = 1 + 3 * LAKES + OWNERS * OWNERS;

        Lowland land;
        int night;
        final int[] barrels = new int[LAKES];
        final int[] lies = new int[LAKES];
        final int[] whose = new int[LAKES];
        final int[] debts = new int[OWNERS * OWNERS];
        private final int[] leaks = new int[LAKES];
        private final Machine machine = new Machine();

        void begin(Lowland lowland) {
            land = lowland;
            night = 0;
            System.arraycopy(land.barrels, 0, barrels, 0, LAKES);
            System.arraycopy(land.lies, 0, lies, 0, LAKES);
            System.arraycopy(land.whose, 0, whose, 0, LAKES);
            System.arraycopy(land.debts, 0, debts, 0, OWNERS * OWNERS);
            for (int lake = land.lakes; lake < LAKES; lake++) {
                setBarrels(lake, 0);
            }
        }

        void copyFrom(Scene other) {
            land = other.land;
            night = other.night;
            System.arraycopy(other.barrels, 0, barrels, 0, LAKES);
            System.arraycopy(other.lies, 0, lies, 0, LAKES);
            System.arraycopy(other.whose, 0, whose, 0, LAKES);
            System.arraycopy(other.debts, 0, debts, 0, OWNERS * OWNERS);
        }

        void writeTo(int[] row) {
            row[0] = night;
            System.arraycopy(barrels, 0, row, 1, LAKES);
            System.arraycopy(lies, 0, row, 1 + LAKES, LAKES);
            System.arraycopy(whose, 0, row, 1 + 2 * LAKES, LAKES);
            System.arraycopy(debts, 0, row, 1 + 3 * LAKES, OWNERS * OWNERS);
        }

        void readFrom(int[] row) {
            night = row[0];
            System.arraycopy(row, 1, barrels, 0, LAKES);
            System.arraycopy(row, 1 + LAKES, lies, 0, LAKES);
            System.arraycopy(row, 1 + 2 * LAKES, whose, 0, LAKES);
            System.arraycopy(row, 1 + 3 * LAKES, debts, 0, OWNERS * OWNERS);
        }

        boolean isHollow(int hollow) {
            return hollow >= 0 && hollow < land.hollows;
        }

        boolean isOwner(int owner) {
            return owner >= 0 && owner < land.owners;
        }

        boolean isLake(int lake) {
            return lake >= 0 && lake < land.lakes;
        }

        boolean areTwoOwners(int owner, int other) {
            return isOwner(owner) && isOwner(other) && owner != other;
        }

        boolean stands(int lake) {
            return isLake(lake) && barrels[lake] > 0;
        }

        void setBarrels(int lake, int count) {
            barrels[lake] = count;
            if (count <= 0) {
                lies[lake] = NONE;
                whose[lake] = NONE;
            }
        }

        int standing() {
            int count = 0;
            for (int lake = 0; lake < land.lakes; lake++) {
                count += barrels[lake] > 0 ? 1 : 0;
            }
            return count;
        }

        int firstGone() {
            for (int lake = 0; lake < land.lakes; lake++) {
                if (barrels[lake] == 0) {
                    return lake;
                }
            }
            return NONE;
        }

        int allBarrels() {
            int sum = 0;
            for (int lake = 0; lake < land.lakes; lake++) {
                sum += barrels[lake];
            }
            return sum;
        }

        int lakesIn(int hollow) {
            int bits = 0;
            for (int lake = 0; lake < land.lakes; lake++) {
                if (lies[lake] == hollow) {
                    bits |= 1 << lake;
                }
            }
            return bits;
        }

        int roomIn(int hollow) {
            int room = land.holds[hollow];
            for (int lake = 0; lake < land.lakes; lake++) {
                if (lies[lake] == hollow) {
                    room -= barrels[lake];
                }
            }
            return room;
        }

        int countIn(int hollow) {
            int count = 0;
            for (int lake = 0; lake < land.lakes; lake++) {
                if (lies[lake] == hollow) {
                    count++;
                }
            }
            return count;
        }

        int lakesOf(int owner) {
            int bits = 0;
            for (int lake = 0; lake < land.lakes; lake++) {
                if (whose[lake] == owner) {
                    bits |= 1 << lake;
                }
            }
            return bits;
        }

        void give(int bits, int owner) {
            for (int lake = 0; lake < land.lakes; lake++) {
                if ((bits & (1 << lake)) != 0) {
                    whose[lake] = owner;
                }
            }
        }

        int worthOf(int lake) {
            if (!stands(lake)) {
                return 0;
            }
            if (!land.hasRule(RULE_WORTH)) {
                return barrels[lake];
            }
            machine.setLake(barrels[lake], night, countIn(lies[lake]) - 1);
            return Math.max(0, Math.min(MOST_WORTH, machine.run(land, RULE_WORTH)));
        }

        int worthOfBits(int bits) {
            int sum = 0;
            for (int lake = 0; lake < land.lakes; lake++) {
                if ((bits & (1 << lake)) != 0) {
                    sum += worthOf(lake);
                }
            }
            return sum;
        }

        int worthOfAll() {
            return worthOfBits((1 << LAKES) - 1);
        }

        int worthOfOwner(int owner) {
            return worthOfBits(lakesOf(owner));
        }

        int leakOf(int lake, int drought) {
            if (!stands(lake) || !land.hasRule(RULE_LEAKS)) {
                return 0;
            }
            machine.setLake(barrels[lake], night, countIn(lies[lake]) - 1);
            machine.setDrought(drought);
            return Math.max(0, Math.min(barrels[lake], machine.run(land, RULE_LEAKS)));
        }

        /** One night goes by here: how many barrels leaked. */
        int passNight(int drought) {
            for (int lake = 0; lake < land.lakes; lake++) {
                leaks[lake] = leakOf(lake, drought);
            }
            int leaked = 0;
            for (int lake = 0; lake < land.lakes; lake++) {
                leaked += leaks[lake];
                setBarrels(lake, barrels[lake] - leaks[lake]);
            }
            night = Math.min(LAST_NIGHT, night + 1);
            return leaked;
        }

        boolean canMove(int lake, int hollow) {
            return stands(lake) && isHollow(hollow) && lies[lake] != hollow
                    && mayGo(lake, hollow, roomIn(hollow), countIn(hollow));
        }

        /** Whether a lake that stands may go into another hollow with that room and so many lakes. */
        boolean mayGo(int lake, int hollow, int room, int beside) {
            if (barrels[lake] > land.carts || barrels[lake] > room) {
                return false;
            }
            if (!land.hasRule(RULE_MAY)) {
                return true;
            }
            machine.setLake(barrels[lake], night, beside);
            machine.setWay(Math.abs(land.places[hollow] - land.places[lies[lake]]), room);
            return machine.run(land, RULE_MAY) != 0;
        }

        boolean canPour(int first, int second) {
            return stands(first) && stands(second) && first != second
                    && whose[first] == whose[second] && lies[first] == lies[second]
                    && barrels[first] + barrels[second] <= MOST_BARRELS;
        }

        int owedBy(int owner) {
            int sum = 0;
            for (int other = 0; other < land.owners; other++) {
                sum += debts[owner * OWNERS + other];
            }
            return sum;
        }

        int owedTo(int owner) {
            int sum = 0;
            for (int other = 0; other < land.owners; other++) {
                sum += debts[other * OWNERS + owner];
            }
            return sum;
        }

        int netOf(int owner) {
            return owedTo(owner) - owedBy(owner);
        }

        int allDebts() {
            int sum = 0;
            for (int owner = 0; owner < land.owners; owner++) {
                sum += owedBy(owner);
            }
            return sum;
        }

        boolean isBroke(int owner) {
            return owedBy(owner) > worthOfBits(lakesOf(owner));
        }
    }

    /** Scenes ahead of the latest acts; the oldest one makes room for the newest. */
    private static final class History {
        private static final int MOST = 20;

        private final int[][] rows = new int[MOST][Scene.ROW];
        private final int[] payments = new int[MOST];
        private int next;
        int depth;

        void forget() {
            depth = 0;
        }

        void push(Scene scene, int paid) {
            scene.writeTo(rows[next]);
            payments[next] = paid;
            next = (next + 1) % MOST;
            depth = Math.min(MOST, depth + 1);
        }

        /** The scene is as it was ahead of the latest act: how many payments there were. */
        int pop(Scene scene) {
            next = (next + MOST - 1) % MOST;
            depth--;
            scene.readFrom(rows[next]);
            return payments[next];
        }
    }

    /** The latest payments: more than are told, since those come back when acts are undone. */
    private static final class Payments {
        private static final int TOLD = 40;
        private static final int HELD = TOLD + History.MOST;

        private final int[] figures = new int[4 * HELD];
        int total;

        int count() {
            return Math.min(TOLD, total);
        }

        void add(int night, int from, int to, int worth) {
            int at = 4 * (total % HELD);
            figures[at] = night;
            figures[at + 1] = from;
            figures[at + 2] = to;
            figures[at + 3] = worth;
            total++;
        }

        int tell(int k, int what) {
            return figures[4 * ((total - count() + k) % HELD) + what];
        }
    }

    /** Looks for the best choice among all there are: of lakes, of hollows, of heirs, of debts. */
    private static final class Chooser {
        static final int SUBSETS = 256;
        private static final int FAR = 1 << 20;

        private final int[] members = new int[LAKES];
        private final int[] values = new int[LAKES];
        private int count;
        private final int[] sums = new int[SUBSETS];
        private final int[] best = new int[SUBSETS];
        private final int[] shares = new int[3];
        private final int[] heirs = new int[LAKES];
        private final int[] bestHeirs = new int[LAKES];
        private int bestGap;
        int excess;

        private void collect(Scene scene, int owner, boolean byWorth) {
            count = 0;
            for (int lake = 0; lake < scene.land.lakes; lake++) {
                if (scene.whose[lake] == owner) {
                    members[count] = lake;
                    values[count] = byWorth ? scene.worthOf(lake) : scene.barrels[lake];
                    count++;
                }
            }
        }

        private void sumUp() {
            sums[0] = 0;
            for (int k = 0; k < count; k++) {
                int bit = 1 << k;
                for (int set = bit; set < 2 * bit; set++) {
                    sums[set] = sums[set - bit] + values[k];
                }
            }
        }

        private int lakeBits(int set) {
            int bits = 0;
            for (int k = 0; k < count; k++) {
                if ((set & (1 << k)) != 0) {
                    bits |= 1 << members[k];
                }
            }
            return bits;
        }

        /** The lakes of an owner that pay a price best, as bits; what they are worth more is the excess. */
        int payers(Scene scene, int owner, int price) {
            collect(scene, owner, true);
            sumUp();
            int found = NONE;
            for (int set = 0; set < 1 << count; set++) {
                if (sums[set] >= price && (found == NONE || paysBetter(set, found))) {
                    found = set;
                }
            }
            if (found == NONE) {
                return NONE;
            }
            excess = sums[found] - price;
            return lakeBits(found);
        }

        private boolean paysBetter(int set, int than) {
            if (sums[set] != sums[than]) {
                return sums[set] < sums[than];
            }
            return Integer.bitCount(set) < Integer.bitCount(than);
        }

        /** How many hollows, times 256, and their bits; so the least of these is the best packing. */
        int packing(Scene scene, int owner) {
            collect(scene, owner, false);
            sumUp();
            int all = (1 << count) - 1;
            Arrays.fill(best, FAR);
            best[0] = 0;
            for (int hollow = 0; hollow < scene.land.hollows; hollow++) {
                packInto(SUBSETS + (1 << hollow), roomWithout(scene, hollow), all);
            }
            return best[all] < FAR ? best[all] : NONE;
        }

        private int roomWithout(Scene scene, int hollow) {
            int room = scene.roomIn(hollow);
            for (int k = 0; k < count; k++) {
                if (scene.lies[members[k]] == hollow) {
                    room += values[k];
                }
            }
            return room;
        }

        /** From the largest set down, so that each one builds on sets this hollow is not yet in. */
        private void packInto(int cost, int room, int all) {
            for (int set = all; set > 0; set--) {
                for (int inside = set; inside > 0; inside = (inside - 1) & set) {
                    if (sums[inside] <= room) {
                        best[set] = Math.min(best[set], best[set ^ inside] + cost);
                    }
                }
            }
        }

        /** The least gap between shares; heirOf() then tells who has which lake. */
        int fairest(Scene scene, int owner, int heirCount) {
            collect(scene, owner, true);
            Arrays.fill(shares, 0);
            bestGap = FAR;
            divide(0, 0, heirCount);
            return bestGap;
        }

        /** An heir without a lake is like any other one: just the first of these need be tried. */
        private void divide(int k, int used, int heirCount) {
            if (k >= count) {
                keepIfFairer(heirCount);
                return;
            }
            for (int heir = 0; heir < heirCount && heir <= used; heir++) {
                heirs[k] = heir;
                shares[heir] += values[k];
                divide(k + 1, heir == used ? used + 1 : used, heirCount);
                shares[heir] -= values[k];
            }
        }

        private void keepIfFairer(int heirCount) {
            int least = Math.min(shares[0], shares[1]);
            int most = Math.max(shares[0], shares[1]);
            if (heirCount == 3) {
                least = Math.min(least, shares[2]);
                most = Math.max(most, shares[2]);
            }
            if (most - least < bestGap) {
                bestGap = most - least;
                System.arraycopy(heirs, 0, bestHeirs, 0, LAKES);
            }
        }

        int heirOf(int lake) {
            for (int k = 0; k < count; k++) {
                if (members[k] == lake) {
                    return bestHeirs[k];
                }
            }
            return NONE;
        }

        /** Each group of nets that is 0 by itself needs one payment fewer than it has owners. */
        int payments(Scene scene) {
            count = 0;
            for (int owner = 0; owner < scene.land.owners; owner++) {
                if (scene.netOf(owner) != 0) {
                    values[count] = scene.netOf(owner);
                    count++;
                }
            }
            sumUp();
            best[0] = 0;
            for (int set = 1; set < 1 << count; set++) {
                best[set] = mostGroups(set) + (sums[set] == 0 ? 1 : 0);
            }
            return count - best[(1 << count) - 1];
        }

        private int mostGroups(int set) {
            int most = 0;
            for (int k = 0; k < count; k++) {
                if ((set & (1 << k)) != 0) {
                    most = Math.max(most, best[set ^ (1 << k)]);
                }
            }
            return most;
        }
    }

    /** Looks for the fewest moves, by one more at a time. */
    private static final class Mover {
        private static final int MOST = 4;
        private static final int SEEN = 2048;

        private final int[] goals = new int[LAKES];
        private final int[] rooms = new int[HOLLOWS];
        private final int[] counts = new int[HOLLOWS];
        private final int[] seen = new int[SEEN];
        private Scene scene;

        boolean takeRows(int[] tape, int size, Scene now) {
            if (size < 2 || size > 2 * LAKES || size % 2 != 0) {
                return false;
            }
            Arrays.fill(goals, NONE);
            for (int at = 0; at < size; at += 2) {
                int lake = tape[at];
                if (!now.stands(lake) || goals[lake] != NONE || !now.isHollow(tape[at + 1])) {
                    return false;
                }
                goals[lake] = tape[at + 1];
            }
            return true;
        }

        /** The scene is changed on the way. */
        int fewest(Scene start) {
            scene = start;
            if (hasHeavyStray()) {
                return NONE;
            }
            for (int hollow = 0; hollow < scene.land.hollows; hollow++) {
                rooms[hollow] = scene.roomIn(hollow);
                counts[hollow] = scene.countIn(hollow);
            }
            for (int moves = 0; moves <= MOST; moves++) {
                forgetSeen(moves);
                if (reaches(moves)) {
                    return moves;
                }
            }
            return NONE;
        }

        /** No cart takes it, tonight or however all else lies; the search need not find that out. */
        private boolean hasHeavyStray() {
            for (int lake = 0; lake < scene.land.lakes; lake++) {
                if (isAstray(lake, scene.lies[lake]) && scene.barrels[lake] > scene.land.carts) {
                    return true;
                }
            }
            return false;
        }

        private boolean isAstray(int lake, int hollow) {
            return goals[lake] != NONE && goals[lake] != hollow;
        }

        private int strayCount() {
            int strays = 0;
            for (int lake = 0; lake < scene.land.lakes; lake++) {
                strays += isAstray(lake, scene.lies[lake]) ? 1 : 0;
            }
            return strays;
        }

        private boolean reaches(int left) {
            int strays = strayCount();
            if (strays == 0 || strays > left) {
                return strays == 0;
            }
            if (strays == left) {
                return reachesStraight(left);
            }
            if (left == 2 && wasSeen()) {
                return false;
            }
            for (int lake = 0; lake < scene.land.lakes; lake++) {
                if (scene.stands(lake) && reachesBy(lake, left, strays)) {
                    return true;
                }
            }
            return false;
        }

        /** As many moves as strays: each one must bring one of them where it is told to lie. */
        private boolean reachesStraight(int left) {
            for (int lake = 0; lake < scene.land.lakes; lake++) {
                if (isAstray(lake, scene.lies[lake]) && reachesInto(lake, goals[lake], left)) {
                    return true;
                }
            }
            return false;
        }

        private boolean reachesBy(int lake, int left, int strays) {
            int others = strays - (isAstray(lake, scene.lies[lake]) ? 1 : 0);
            for (int to = 0; to < scene.land.hollows; to++) {
                boolean close = others + (isAstray(lake, to) ? 1 : 0) < left;
                if (close && (left > 2 || helpsLast(lake, to)) && reachesInto(lake, to, left)) {
                    return true;
                }
            }
            return false;
        }

        /**
         * With two moves left and one stray, the last move is the stray's. A move of another lake that does not touch
         * the hollow it goes to changes nothing for it, and without that move all would have been found sooner.
         */
        private boolean helpsLast(int lake, int to) {
            if (isAstray(lake, scene.lies[lake])) {
                return true;
            }
            return isAwaited(to) || isAwaited(scene.lies[lake]);
        }

        private boolean isAwaited(int hollow) {
            for (int lake = 0; lake < scene.land.lakes; lake++) {
                if (goals[lake] == hollow && scene.lies[lake] != hollow) {
                    return true;
                }
            }
            return false;
        }

        private boolean reachesInto(int lake, int to, int left) {
            int from = scene.lies[lake];
            if (to == from || !scene.mayGo(lake, to, rooms[to], counts[to])) {
                return false;
            }
            shift(lake, from, to);
            boolean found = reaches(left - 1);
            shift(lake, to, from);
            return found;
        }

        private void shift(int lake, int from, int to) {
            scene.lies[lake] = to;
            rooms[from] += scene.barrels[lake];
            counts[from]--;
            rooms[to] -= scene.barrels[lake];
            counts[to]++;
        }

        /** With fewer than two moves nothing is looked up. */
        private void forgetSeen(int moves) {
            if (moves > 1) {
                Arrays.fill(seen, 0);
            }
        }

        /** Whether all lay like this before with as many moves left; from now on it did. */
        private boolean wasSeen() {
            int key = 1;
            for (int lake = 0; lake < scene.land.lakes; lake++) {
                key = key * HOLLOWS + Math.max(0, scene.lies[lake]);
            }
            int slot = (key * 0x9E3779B1) >>> 21;
            for (int tries = 0; tries < SEEN; tries++) {
                if (seen[slot] == key) {
                    return true;
                }
                if (seen[slot] == 0) {
                    seen[slot] = key;
                    return false;
                }
                slot = (slot + 1) % SEEN;
            }
            return false;
        }
    }

    /** Images: written as bytes, and read back into a scene. */
    private static final class Picture {
        private static final int MOST = 2 + 4 * LAKES + 2 * OWNERS * OWNERS + 1;
        private static final int GONE = 255;

        final int[] bytes = new int[MOST];
        int size;

        void draw(Scene scene) {
            size = 0;
            putPair(scene.night);
            for (int lake = 0; lake < scene.land.lakes; lake++) {
                putPair(scene.barrels[lake]);
                put(scene.stands(lake) ? scene.lies[lake] : GONE);
                put(scene.stands(lake) ? scene.whose[lake] : GONE);
            }
            for (int owner = 0; owner < scene.land.owners; owner++) {
                for (int other = 0; other < scene.land.owners; other++) {
                    putPair(scene.debts[owner * OWNERS + other]);
                }
            }
            put(check(bytes, size));
        }

        private void put(int octet) {
            if (size < MOST) {
                bytes[size] = octet;
                size++;
            }
        }

        private void putPair(int number) {
            put(number / 256);
            put(number % 256);
        }

        private static int check(int[] row, int length) {
            int c = 149;
            for (int k = 0; k < length; k++) {
                c = (5 * c + row[k]) % 251;
            }
            return c;
        }

        private static int sizeFor(Lowland land) {
            return 2 + 4 * land.lakes + 2 * land.owners * land.owners + 1;
        }

        /** Whether a tape is an image; the scene is as it tells then, and of no use otherwise. */
        boolean restores(int[] tape, int length, Scene scene) {
            if (length != sizeFor(scene.land) || tape[length - 1] != check(tape, length - 1)) {
                return false;
            }
            scene.night = pair(tape, 0);
            int debtsFrom = 2 + 4 * scene.land.lakes;
            return scene.night <= LAST_NIGHT && restoresLakes(tape, scene) && restoresDebts(tape, debtsFrom, scene);
        }

        private static int pair(int[] tape, int at) {
            return tape[at] * 256 + tape[at + 1];
        }

        private boolean restoresLakes(int[] tape, Scene scene) {
            for (int lake = 0; lake < scene.land.lakes; lake++) {
                int at = 2 + 4 * lake;
                if (!isLakeRow(pair(tape, at), tape[at + 2], tape[at + 3], scene)) {
                    return false;
                }
                scene.lies[lake] = tape[at + 2];
                scene.whose[lake] = tape[at + 3];
                scene.setBarrels(lake, pair(tape, at));
            }
            for (int hollow = 0; hollow < scene.land.hollows; hollow++) {
                if (scene.roomIn(hollow) < 0) {
                    return false;
                }
            }
            return true;
        }

        private static boolean isLakeRow(int barrels, int hollow, int owner, Scene scene) {
            if (barrels == 0) {
                return hollow == GONE && owner == GONE;
            }
            return barrels <= MOST_BARRELS && scene.isHollow(hollow) && scene.isOwner(owner);
        }

        private boolean restoresDebts(int[] tape, int from, Scene scene) {
            int at = from;
            for (int owner = 0; owner < scene.land.owners; owner++) {
                for (int other = 0; other < scene.land.owners; other++) {
                    int debt = pair(tape, at);
                    if (debt > MOST_DEBT || (owner == other && debt > 0)) {
                        return false;
                    }
                    scene.debts[owner * OWNERS + other] = debt;
                    at += 2;
                }
            }
            return true;
        }
    }
}
