import java.util.ArrayDeque;
import java.util.ArrayList;
import java.util.Arrays;
import java.util.Deque;
import java.util.HashSet;
import java.util.LinkedHashMap;
import java.util.List;
import java.util.Map;
import java.util.Set;
import java.util.function.ToLongFunction;

/** The document once more, slowly and plainly, by the whole Java library: what LakeMarket is held against. */
final class Oracle {
    static final List<String> OWN = List.of("hollow", "holds", "at", "owner", "lake", "has", "in", "of", "owes", "leaks",
            "worth", "may", "carts", "night", "beside", "steps", "free", "if", "or", "and", "not", "all", "min", "max",
            "drought");

    /** What a sum or a test is worked out for. */
    record Figures(long has, long night, long beside, long drought, long steps, long free) {
    }

    record Hollow(String name, int holds, int place) {
    }

    static final class Lake {
        int barrels;
        int hollow;
        int owner;

        Lake(int barrels, int hollow, int owner) {
            this.barrels = barrels;
            this.hollow = hollow;
            this.owner = owner;
        }

        Lake copy() {
            return new Lake(barrels, hollow, owner);
        }

        boolean gone() {
            return barrels == 0;
        }
    }

    static final class Land {
        int statements = 0;
        final List<Hollow> hollows = new ArrayList<>();
        final List<String> owners = new ArrayList<>();
        final List<String> lakeNames = new ArrayList<>();
        final List<Lake> lakes = new ArrayList<>();
        final Map<List<Integer>, Integer> debts = new LinkedHashMap<>();
        ToLongFunction<Figures> leaks;
        ToLongFunction<Figures> worth;
        ToLongFunction<Figures> may;
        int drought = 0;
        int carts = 999;

        int hollowNamed(String name) {
            for (int i = 0; i < hollows.size(); i++) {
                if (hollows.get(i).name().equals(name)) {
                    return i;
                }
            }
            return -1;
        }
    }

    static final class State {
        int night;
        List<Lake> lakes = new ArrayList<>();
        Map<List<Integer>, Integer> debts = new LinkedHashMap<>();
        List<int[]> kept = new ArrayList<>();

        State copy() {
            State s = new State();
            s.night = night;
            for (Lake l : lakes) {
                s.lakes.add(l.copy());
            }
            s.debts.putAll(debts);
            s.kept.addAll(kept);
            return s;
        }

        int debt(int a, int b) {
            return debts.getOrDefault(List.of(a, b), 0);
        }

        void setDebt(int a, int b, int n) {
            debts.put(List.of(a, b), n);
        }
    }

    // ---- the text

    static final class Fault extends RuntimeException {
        private static final long serialVersionUID = 1L;
        final int kind;
        final int place;

        Fault(int kind, int place) {
            super(null, null, false, false);
            this.kind = kind;
            this.place = place;
        }
    }

    static final class Parser {
        final String t;
        int at = 0;
        Land land = new Land();
        String rule = "";
        int open = 0;

        Parser(String t) {
            this.t = t;
        }

        char here() {
            return at < t.length() ? t.charAt(at) : '\0';
        }

        boolean letterAt(int p) {
            return p < t.length() && t.charAt(p) >= 'a' && t.charAt(p) <= 'z';
        }

        boolean digitAt(int p) {
            return p < t.length() && t.charAt(p) >= '0' && t.charAt(p) <= '9';
        }

        void blanks() {
            while (at < t.length() && (here() == ' ' || here() == '\n')) {
                at++;
            }
        }

        /** Fault 1 here: at a 7th letter or 5th digit, if what stands here has one and a blank ahead of it. */
        Fault form() {
            if (isGlued()) {
                return new Fault(1, at);
            }
            String w = peekWord();
            if (w.length() > 6 && !OWN.contains(w)) {
                return new Fault(1, at + 6);
            }
            if (peekNumber().length() > 4) {
                return new Fault(1, at + 4);
            }
            return new Fault(1, at);
        }

        boolean isGlued() {
            boolean wordAhead = at > 0 && letterAt(at - 1);
            boolean numberAhead = at > 0 && digitAt(at - 1);
            return wordAhead && digitAt(at) || numberAhead && letterAt(at);
        }

        /** Words and numbers side by side need a blank. */
        void apart() {
            if (isGlued()) {
                throw form();
            }
        }

        String peekWord() {
            int e = at;
            while (letterAt(e)) {
                e++;
            }
            return t.substring(at, e);
        }

        String peekNumber() {
            int e = at;
            while (digitAt(e)) {
                e++;
            }
            return t.substring(at, e);
        }

        boolean seesWord(String w) {
            blanks();
            return peekWord().equals(w);
        }

        void word(String w) {
            blanks();
            apart();
            if (!peekWord().equals(w)) {
                throw form();
            }
            at += w.length();
        }

        void sign(char c) {
            blanks();
            if (at >= t.length() || here() != c) {
                throw form();
            }
            at++;
        }

        String name() {
            blanks();
            apart();
            String w = peekWord();
            if (w.isEmpty() || w.length() > 6 || OWN.contains(w)) {
                throw form();
            }
            return w;
        }

        String newName() {
            String w = name();
            if (land.hollowNamed(w) >= 0 || land.owners.contains(w) || land.lakeNames.contains(w)) {
                throw new Fault(2, at);
            }
            at += w.length();
            return w;
        }

        int ownerName(int but) {
            String w = name();
            int owner = land.owners.indexOf(w);
            if (owner < 0 || owner == but) {
                throw new Fault(3, at);
            }
            at += w.length();
            return owner;
        }

        int number(int least, int most) {
            blanks();
            apart();
            String n = peekNumber();
            if (n.isEmpty() || n.length() > 4) {
                throw form();
            }
            int v = Integer.parseInt(n);
            if (v < least || v > most) {
                throw new Fault(4, at);
            }
            at += n.length();
            return v;
        }

        Land lowland() {
            blanks();
            while (at < t.length()) {
                statement();
                land.statements++;
                blanks();
            }
            return land;
        }

        void tooMany(boolean yes) {
            if (yes) {
                throw new Fault(6, at);
            }
        }

        void statement() {
            tooMany(land.statements == 80);
            String w = peekWord();
            if (w.equals("hollow")) {
                tooMany(land.hollows.size() == 8);
                word(w);
                String name = newName();
                word("holds");
                int holds = number(1, 999);
                word("at");
                land.hollows.add(new Hollow(name, holds, number(0, 99)));
            } else if (w.equals("owner")) {
                tooMany(land.owners.size() == 6);
                word(w);
                land.owners.add(newName());
            } else if (w.equals("lake")) {
                tooMany(land.lakes.size() == 8);
                word(w);
                lake();
            } else if (w.equals("owes")) {
                word(w);
                int a = ownerName(-1);
                int b = ownerName(a);
                land.debts.put(List.of(a, b), number(0, 999));
            } else if (w.equals("leaks")) {
                tooMany(land.leaks != null);
                word(w);
                rule = w;
                land.leaks = sum();
            } else if (w.equals("worth")) {
                tooMany(land.worth != null);
                word(w);
                rule = w;
                land.worth = sum();
            } else if (w.equals("may")) {
                tooMany(land.may != null);
                word(w);
                rule = w;
                land.may = test();
            } else if (w.equals("drought")) {
                word(w);
                land.drought = number(0, 100);
            } else if (w.equals("carts")) {
                word(w);
                land.carts = number(1, 999);
            } else {
                throw form();
            }
            sign(';');
        }

        void lake() {
            String name = newName();
            word("has");
            int barrels = number(1, 999);
            word("in");
            String in = name();
            int hollow = land.hollowNamed(in);
            if (hollow < 0) {
                throw new Fault(3, at);
            }
            int full = barrels;
            for (Lake l : land.lakes) {
                full += l.hollow == hollow ? l.barrels : 0;
            }
            if (full > land.hollows.get(hollow).holds()) {
                throw new Fault(3, at);
            }
            at += in.length();
            word("of");
            int owner = ownerName(-1);
            land.lakeNames.add(name);
            land.lakes.add(new Lake(barrels, hollow, owner));
        }

        void opens(int length) {
            if (open == 7) {
                throw new Fault(5, at);
            }
            open++;
            at += length;
        }

        void openSign(char c) {
            blanks();
            if (at >= t.length() || here() != c) {
                throw form();
            }
            opens(1);
        }

        void closeSign(char c) {
            sign(c);
            open--;
        }

        static long held(long v) {
            return v > 1000000 ? 1000000 : v < -1000000 ? -1000000 : v;
        }

        static long over(long a, long b) {
            if (b == 0) {
                return 0;
            }
            long q = a / b;
            while (q * b > a && b > 0 || q * b < a && b < 0) {
                q--;
            }
            return q;
        }

        ToLongFunction<Figures> sum() {
            ToLongFunction<Figures> left = product();
            for (;;) {
                blanks();
                char c = here();
                if (c != '+' && c != '-') {
                    return left;
                }
                at++;
                ToLongFunction<Figures> a = left;
                ToLongFunction<Figures> b = product();
                left = c == '+' ? f -> held(a.applyAsLong(f) + b.applyAsLong(f))
                        : f -> held(a.applyAsLong(f) - b.applyAsLong(f));
            }
        }

        ToLongFunction<Figures> product() {
            ToLongFunction<Figures> left = part();
            for (;;) {
                blanks();
                char c = here();
                if (c != '*' && c != '/' && c != '%') {
                    return left;
                }
                at++;
                ToLongFunction<Figures> a = left;
                ToLongFunction<Figures> b = part();
                left = f -> {
                    long x = a.applyAsLong(f);
                    long y = b.applyAsLong(f);
                    if (c == '*') {
                        return held(x * y);
                    }
                    return held(c == '/' ? over(x, y) : y == 0 ? 0 : x - y * over(x, y));
                };
            }
        }

        ToLongFunction<Figures> part() {
            blanks();
            if (here() == '(') {
                opens(1);
                ToLongFunction<Figures> inner = sum();
                closeSign(')');
                return inner;
            }
            apart();
            if (digitAt(at)) {
                int n = number(0, 9999);
                return f -> n;
            }
            String w = peekWord();
            if (w.equals("min") || w.equals("max")) {
                word(w);
                openSign('(');
                ToLongFunction<Figures> a = sum();
                sign(',');
                ToLongFunction<Figures> b = sum();
                closeSign(')');
                return w.equals("min") ? f -> Math.min(a.applyAsLong(f), b.applyAsLong(f))
                        : f -> Math.max(a.applyAsLong(f), b.applyAsLong(f));
            }
            if (w.equals("if")) {
                word(w);
                openSign('(');
                ToLongFunction<Figures> c = test();
                sign(',');
                ToLongFunction<Figures> a = sum();
                sign(',');
                ToLongFunction<Figures> b = sum();
                closeSign(')');
                return f -> c.applyAsLong(f) != 0 ? a.applyAsLong(f) : b.applyAsLong(f);
            }
            ToLongFunction<Figures> figure = figure(w);
            if (figure == null) {
                throw form();
            }
            at += w.length();
            return figure;
        }

        ToLongFunction<Figures> figure(String w) {
            if (w.equals("has")) {
                return Figures::has;
            }
            if (w.equals("night")) {
                return Figures::night;
            }
            if (w.equals("beside")) {
                return Figures::beside;
            }
            if (w.equals("drought") && rule.equals("leaks")) {
                return Figures::drought;
            }
            if (w.equals("steps") && rule.equals("may")) {
                return Figures::steps;
            }
            return w.equals("free") && rule.equals("may") ? Figures::free : null;
        }

        ToLongFunction<Figures> test() {
            ToLongFunction<Figures> left = both();
            while (seesWord("or")) {
                word("or");
                ToLongFunction<Figures> a = left;
                ToLongFunction<Figures> b = both();
                left = f -> a.applyAsLong(f) + b.applyAsLong(f) > 0 ? 1 : 0;
            }
            return left;
        }

        ToLongFunction<Figures> both() {
            ToLongFunction<Figures> left = fact();
            while (seesWord("and")) {
                word("and");
                ToLongFunction<Figures> a = left;
                ToLongFunction<Figures> b = fact();
                left = f -> a.applyAsLong(f) * b.applyAsLong(f);
            }
            return left;
        }

        ToLongFunction<Figures> fact() {
            blanks();
            if (here() == '[') {
                opens(1);
                ToLongFunction<Figures> inner = test();
                closeSign(']');
                return inner;
            }
            apart();
            if (seesWord("not")) {
                opens(3);
                ToLongFunction<Figures> inner = fact();
                open--;
                return f -> 1 - inner.applyAsLong(f);
            }
            if (seesWord("all")) {
                word("all");
                return f -> 1;
            }
            ToLongFunction<Figures> a = sum();
            blanks();
            char c = here();
            if (c != '<' && c != '>' && c != '=') {
                throw form();
            }
            at++;
            ToLongFunction<Figures> b = sum();
            return f -> {
                int r = Long.compare(a.applyAsLong(f), b.applyAsLong(f));
                return (c == '<' ? r < 0 : c == '>' ? r > 0 : r == 0) ? 1 : 0;
            };
        }
    }

    // ---- the object

    final List<Integer> tape = new ArrayList<>();
    Land land = new Land();
    State now = new State();
    final Deque<State> past = new ArrayDeque<>();
    int faultKind = 0;
    int faultPlace = -1;
    List<int[]> stoodRows = null;
    List<Integer> octets = List.of();
    long x = 1;
    final int[] refused = new int[6];

    int refuse(int kind) {
        refused[kind]++;
        return -1;
    }

    boolean refuseFalse(int kind) {
        refused[kind]++;
        return false;
    }

    int feed(int... five) {
        if (tape.size() + 20 > 1600) {
            return refuse(0);
        }
        for (int n : five) {
            tape.add(n >>> 24);
            tape.add(n >>> 16 & 255);
            tape.add(n >>> 8 & 255);
            tape.add(n & 255);
        }
        return tape.size();
    }

    boolean end(int n) {
        if (n < 0 || n > tape.size()) {
            return refuseFalse(0);
        }
        tape.subList(n, tape.size()).clear();
        return true;
    }

    List<Integer> takeTape() {
        List<Integer> row = new ArrayList<>(tape);
        tape.clear();
        return row;
    }

    int lowland() {
        StringBuilder text = new StringBuilder();
        for (int octet : takeTape()) {
            text.append((char) octet);
        }
        try {
            land = new Parser(text.toString()).lowland();
        } catch (Fault f) {
            faultKind = f.kind;
            faultPlace = f.place;
            return refuse(1);
        }
        faultKind = 0;
        faultPlace = -1;
        now = new State();
        for (Lake l : land.lakes) {
            now.lakes.add(l.copy());
        }
        now.debts.putAll(land.debts);
        past.clear();
        stoodRows = null;
        return land.statements;
    }

    int fault(int what) {
        return what == 0 ? faultKind : what == 1 ? faultPlace : -1;
    }

    // ---- what all are asked of

    boolean isOwner(int o) {
        return o >= 0 && o < land.owners.size();
    }

    boolean isHollow(int h) {
        return h >= 0 && h < land.hollows.size();
    }

    boolean isLake(int l) {
        return l >= 0 && l < land.lakes.size();
    }

    static int room(Land land, State s, int h) {
        return land.hollows.get(h).holds() - s.lakes.stream().filter(l -> !l.gone() && l.hollow == h)
                .mapToInt(l -> l.barrels).sum();
    }

    static long lyingIn(State s, int h) {
        return s.lakes.stream().filter(l -> !l.gone() && l.hollow == h).count();
    }

    int worth(State s, int lake) {
        Lake l = s.lakes.get(lake);
        if (l.gone()) {
            return 0;
        }
        if (land.worth == null) {
            return l.barrels;
        }
        long w = land.worth.applyAsLong(new Figures(l.barrels, s.night, lyingIn(s, l.hollow) - 1, 0, 0, 0));
        return (int) Math.max(0, Math.min(9999, w));
    }

    int leak(State s, int lake, boolean drought) {
        Lake l = s.lakes.get(lake);
        if (l.gone() || land.leaks == null) {
            return 0;
        }
        long w = land.leaks.applyAsLong(
                new Figures(l.barrels, s.night, lyingIn(s, l.hollow) - 1, drought ? 1 : 0, 0, 0));
        return (int) Math.max(0, Math.min(l.barrels, w));
    }

    int night(State s, boolean drought) {
        int[] leaks = new int[s.lakes.size()];
        for (int i = 0; i < leaks.length; i++) {
            leaks[i] = leak(s, i, drought);
        }
        for (int i = 0; i < leaks.length; i++) {
            s.lakes.get(i).barrels -= leaks[i];
        }
        s.night++;
        return Arrays.stream(leaks).sum();
    }

    List<Integer> lakesOf(State s, int owner) {
        List<Integer> row = new ArrayList<>();
        for (int i = 0; i < s.lakes.size(); i++) {
            if (!s.lakes.get(i).gone() && s.lakes.get(i).owner == owner) {
                row.add(i);
            }
        }
        return row;
    }

    int worthOf(State s, List<Integer> lakes) {
        return lakes.stream().mapToInt(l -> worth(s, l)).sum();
    }

    int worthOfAll(State s) {
        int sum = 0;
        for (int i = 0; i < s.lakes.size(); i++) {
            sum += worth(s, i);
        }
        return sum;
    }

    int owedBy(State s, int owner) {
        int sum = 0;
        for (int o = 0; o < land.owners.size(); o++) {
            sum += s.debt(owner, o);
        }
        return sum;
    }

    int owedTo(State s, int owner) {
        int sum = 0;
        for (int o = 0; o < land.owners.size(); o++) {
            sum += s.debt(o, owner);
        }
        return sum;
    }

    boolean isBroke(State s, int owner) {
        return owedBy(s, owner) > worthOf(s, lakesOf(s, owner));
    }

    static int bits(List<Integer> row) {
        return row.stream().mapToInt(b -> 1 << b).sum();
    }

    int has(int what) {
        int[] all = {land.hollows.size(), land.owners.size(), land.lakes.size(), now.night,
                (int) now.lakes.stream().filter(l -> !l.gone()).count(),
                now.lakes.stream().mapToInt(l -> l.barrels).sum(), worthOfAll(now),
                now.debts.values().stream().mapToInt(d -> d).sum(), Math.min(40, now.kept.size()), past.size(),
                (int) x};
        return what >= 0 && what < all.length ? all[what] : -1;
    }

    int letter(int kind, int which, int k) {
        List<String> names = kind == 0 ? land.hollows.stream().map(Hollow::name).toList()
                : kind == 1 ? land.owners : kind == 2 ? land.lakeNames : List.of();
        if (which < 0 || which >= names.size() || k < 0 || k > 5) {
            return -1;
        }
        String name = names.get(which);
        return k < name.length() ? name.charAt(k) - 'a' + 1 : 0;
    }

    int hollow(int h, int what) {
        if (!isHollow(h) || what < 0 || what > 3) {
            return -1;
        }
        int lying = 0;
        for (int i = 0; i < now.lakes.size(); i++) {
            Lake l = now.lakes.get(i);
            lying |= !l.gone() && l.hollow == h ? 1 << i : 0;
        }
        Hollow told = land.hollows.get(h);
        return new int[] {told.holds(), told.place(), room(land, now, h), lying}[what];
    }

    int lake(int lake, int what) {
        if (!isLake(lake) || what < 0 || what > 4) {
            return -1;
        }
        Lake l = now.lakes.get(lake);
        return new int[] {l.barrels, l.gone() ? -1 : l.hollow, l.gone() ? -1 : l.owner, worth(now, lake),
                leak(now, lake, false)}[what];
    }

    int owner(int o, int what) {
        if (!isOwner(o) || what < 0 || what > 4) {
            return -1;
        }
        List<Integer> his = lakesOf(now, o);
        return new int[] {bits(his), worthOf(now, his), owedBy(now, o), owedTo(now, o),
                isBroke(now, o) ? 1 : 0}[what];
    }

    int owes(int a, int b) {
        return isOwner(a) && isOwner(b) && a != b ? now.debt(a, b) : -1;
    }

    // ---- ahead

    int later(int n, int lake) {
        if (n < 0 || n > 100 || now.night + n > 9999 || lake != -1 && !isLake(lake)) {
            return -1;
        }
        State s = now.copy();
        for (int i = 0; i < n; i++) {
            night(s, false);
        }
        return lake == -1 ? worthOfAll(s) : s.lakes.get(lake).barrels;
    }

    int broke(int o) {
        if (!isOwner(o)) {
            return -1;
        }
        State s = now.copy();
        for (int n = 0; n <= 100 && s.night <= 9999; n++) {
            if (isBroke(s, o)) {
                return n;
            }
            night(s, false);
        }
        return -1;
    }

    int spend(int lake, int what) {
        if (!isLake(lake) || now.lakes.get(lake).gone() || what < 0 || what > 1) {
            return -1;
        }
        State s = now.copy();
        List<Integer> worths = new ArrayList<>();
        for (int n = 0; n <= 100 && s.night <= 9999; n++) {
            worths.add(worth(s, lake));
            night(s, false);
        }
        int most = worths.stream().max(Integer::compare).orElseThrow();
        return what == 0 ? worths.indexOf(most) : most;
    }

    // ---- prices, moves, packings

    int price(int o, int price, int what) {
        if (!isOwner(o) || price < 0 || price > 9999 || what < 0 || what > 1) {
            return -1;
        }
        List<Integer> his = lakesOf(now, o);
        int[] best = null;
        for (int set = 0; set < 256; set++) {
            int chosen = set;
            if ((set & ~bits(his)) != 0) {
                continue;
            }
            int worth = worthOf(now, his.stream().filter(l -> (chosen >> l & 1) == 1).toList());
            int[] row = {worth - price, Integer.bitCount(set), set};
            if (worth >= price && (best == null || Arrays.compare(row, best) < 0)) {
                best = row;
            }
        }
        return best == null ? -1 : what == 0 ? best[2] : best[0];
    }

    boolean mayMove(State s, int lake, int h) {
        if (!isLake(lake) || s.lakes.get(lake).gone() || !isHollow(h) || s.lakes.get(lake).hollow == h) {
            return false;
        }
        Lake l = s.lakes.get(lake);
        int room = room(land, s, h);
        if (l.barrels > land.carts || l.barrels > room) {
            return false;
        }
        int steps = Math.abs(land.hollows.get(h).place() - land.hollows.get(l.hollow).place());
        return land.may == null
                || land.may.applyAsLong(new Figures(l.barrels, s.night, lyingIn(s, h), 0, steps, room)) != 0;
    }

    int moves() {
        List<Integer> row = takeTape();
        Map<Integer, Integer> goals = new LinkedHashMap<>();
        boolean good = row.size() >= 2 && row.size() <= 16 && row.size() % 2 == 0;
        for (int i = 0; good && i < row.size(); i += 2) {
            int lake = row.get(i);
            good = isLake(lake) && !now.lakes.get(lake).gone() && isHollow(row.get(i + 1))
                    && goals.put(lake, row.get(i + 1)) == null;
        }
        if (!good) {
            return refuse(5);
        }
        Set<List<Integer>> seen = new HashSet<>();
        List<List<Integer>> level = List.of(now.lakes.stream().map(l -> l.gone() ? -1 : l.hollow).toList());
        for (int n = 0; n <= 4; n++) {
            for (List<Integer> lying : level) {
                if (goals.entrySet().stream().allMatch(g -> lying.get(g.getKey()).equals(g.getValue()))) {
                    return n;
                }
            }
            level = n < 4 ? nextLevel(level, seen) : List.of();
        }
        return -1;
    }

    private List<List<Integer>> nextLevel(List<List<Integer>> level, Set<List<Integer>> seen) {
        List<List<Integer>> next = new ArrayList<>();
        State s = now.copy();
        for (List<Integer> lying : level) {
            for (int lake = 0; lake < lying.size(); lake++) {
                for (int i = 0; i < lying.size(); i++) {
                    s.lakes.get(i).hollow = lying.get(i);
                }
                for (int h = 0; h < land.hollows.size(); h++) {
                    if (mayMove(s, lake, h)) {
                        List<Integer> then = new ArrayList<>(lying);
                        then.set(lake, h);
                        if (seen.add(then)) {
                            next.add(then);
                        }
                    }
                }
            }
        }
        return next;
    }

    int pack(int o, int what) {
        if (!isOwner(o) || what < 0 || what > 1) {
            return -1;
        }
        List<Integer> his = lakesOf(now, o);
        State without = now.copy();
        his.forEach(l -> without.lakes.get(l).barrels = 0);
        int[] best = null;
        for (int set = 0; set < 1 << land.hollows.size(); set++) {
            int[] row = {Integer.bitCount(set), set};
            if (best == null || Arrays.compare(row, best) < 0) {
                int[] rooms = new int[land.hollows.size()];
                for (int h = 0; h < rooms.length; h++) {
                    rooms[h] = (set >> h & 1) == 1 ? room(land, without, h) : 0;
                }
                best = fits(his, 0, rooms) ? row : best;
            }
        }
        return best == null ? -1 : what == 0 ? best[1] : best[0];
    }

    private boolean fits(List<Integer> lakes, int k, int[] rooms) {
        if (k == lakes.size()) {
            return true;
        }
        int barrels = now.lakes.get(lakes.get(k)).barrels;
        for (int h = 0; h < rooms.length; h++) {
            if (rooms[h] >= barrels) {
                rooms[h] -= barrels;
                boolean good = fits(lakes, k + 1, rooms);
                rooms[h] += barrels;
                if (good) {
                    return true;
                }
            }
        }
        return false;
    }

    // ---- debts, shares

    int net(int o) {
        return isOwner(o) ? owedTo(now, o) - owedBy(now, o) : -1000000000;
    }

    int settling() {
        List<Integer> nets = new ArrayList<>();
        for (int o = 0; o < land.owners.size(); o++) {
            nets.add(net(o));
        }
        for (int n = 0;; n++) {
            if (settles(nets, n)) {
                return n;
            }
        }
    }

    /** By trying payments: one owner's whole net is put on another one, which is enough to find the fewest. */
    private static boolean settles(List<Integer> nets, int n) {
        if (nets.stream().allMatch(v -> v == 0)) {
            return true;
        }
        if (n == 0) {
            return false;
        }
        for (int a = 0; a < nets.size(); a++) {
            for (int b = 0; b < nets.size() && nets.get(a) != 0; b++) {
                if (a != b && nets.get(b) != 0) {
                    List<Integer> then = new ArrayList<>(nets);
                    then.set(b, nets.get(a) + nets.get(b));
                    then.set(a, 0);
                    if (settles(then, n - 1)) {
                        return true;
                    }
                }
            }
        }
        return false;
    }

    int share(int o, int heirs, int lake) {
        if (!isOwner(o) || heirs < 2 || heirs > 3) {
            return -1;
        }
        List<Integer> his = lakesOf(now, o);
        if (lake != -1 && !his.contains(lake)) {
            return -1;
        }
        int bestGap = Integer.MAX_VALUE;
        int[] best = null;
        int all = (int) Math.round(Math.pow(heirs, his.size()));
        int[] worths = his.stream().mapToInt(l -> worth(now, l)).toArray();
        for (int code = 0; code < all; code++) {
            int[] to = new int[his.size()];
            int[] shares = new int[heirs];
            int rest = code;
            for (int k = his.size() - 1; k >= 0; k--) {
                to[k] = rest % heirs;
                rest /= heirs;
                shares[to[k]] += worths[k];
            }
            int gap = Arrays.stream(shares).max().getAsInt() - Arrays.stream(shares).min().getAsInt();
            if (gap < bestGap) {
                bestGap = gap;
                best = to;
            }
        }
        return lake == -1 ? bestGap : best[his.indexOf(lake)];
    }

    // ---- thieves

    int stood() {
        List<Integer> row = takeTape();
        boolean good = !row.isEmpty() && row.size() <= 24 && row.size() % 3 == 0;
        List<int[]> rows = new ArrayList<>();
        for (int i = 0; good && i < row.size(); i += 3) {
            rows.add(new int[] {row.get(i), row.get(i + 1) * 256 + row.get(i + 2)});
            good = isLake(row.get(i)) && rows.get(rows.size() - 1)[1] <= 999;
        }
        if (!good) {
            return refuse(5);
        }
        stoodRows = rows;
        return rows.size();
    }

    int robbed(int barrels) {
        if (stoodRows == null || barrels < 1 || barrels > 999) {
            return -1;
        }
        State s = now.copy();
        night(s, false);
        int found = 0;
        for (int thief = -1; thief < s.lakes.size(); thief++) {
            State t = s.copy();
            if (thief >= 0) {
                if (t.lakes.get(thief).gone()) {
                    continue;
                }
                t.lakes.get(thief).barrels = Math.max(0, t.lakes.get(thief).barrels - barrels);
            }
            if (stoodRows.stream().allMatch(r -> t.lakes.get(r[0]).barrels == r[1])) {
                found |= thief < 0 ? 256 : 1 << thief;
            }
        }
        return found;
    }

    // ---- acts

    void act() {
        past.addLast(now.copy());
        if (past.size() > 20) {
            past.removeFirst();
        }
    }

    int draw(int m) {
        x = (1103515245L * x + 12345L) % (1L << 31);
        return (int) (x / 64 % m);
    }

    int nights(int n) {
        if (n < 1 || n > 100 || now.night + n > 9999) {
            return refuse(2);
        }
        act();
        int sum = 0;
        for (int i = 0; i < n; i++) {
            sum += night(now, false);
        }
        return sum;
    }

    int chance(int n) {
        if (n < 1 || n > 100 || now.night + n > 9999) {
            return refuse(2);
        }
        act();
        int sum = 0;
        for (int i = 0; i < n; i++) {
            boolean drought = draw(100) < land.drought;
            sum += drought ? 1 : 0;
            night(now, drought);
        }
        return sum;
    }

    boolean move(int lake, int h) {
        if (!mayMove(now, lake, h)) {
            return refuseFalse(3);
        }
        act();
        now.lakes.get(lake).hollow = h;
        return true;
    }

    int pour(int first, int second) {
        if (!isLake(first) || !isLake(second) || first == second) {
            return refuse(3);
        }
        Lake a = now.lakes.get(first);
        Lake b = now.lakes.get(second);
        if (a.gone() || b.gone() || a.hollow != b.hollow || a.owner != b.owner || a.barrels + b.barrels > 999) {
            return refuse(3);
        }
        act();
        a.barrels += b.barrels;
        b.barrels = 0;
        return a.barrels;
    }

    int part(int lake, int barrels) {
        if (!isLake(lake) || barrels < 1 || barrels >= now.lakes.get(lake).barrels) {
            return refuse(3);
        }
        for (int i = 0; i < now.lakes.size(); i++) {
            if (now.lakes.get(i).gone()) {
                act();
                Lake l = now.lakes.get(lake);
                l.barrels -= barrels;
                now.lakes.set(i, new Lake(barrels, l.hollow, l.owner));
                return i;
            }
        }
        return refuse(3);
    }

    int pay(int a, int b, int lakes) {
        if (!isOwner(a) || !isOwner(b) || a == b || lakes == 0 || (lakes & ~bits(lakesOf(now, a))) != 0) {
            return refuse(3);
        }
        List<Integer> paid = lakesOf(now, a).stream().filter(l -> (lakes >> l & 1) == 1).toList();
        int worth = worthOf(now, paid);
        int less = Math.min(worth, now.debt(a, b));
        if (now.debt(b, a) + worth - less > 9999) {
            return refuse(3);
        }
        act();
        now.setDebt(a, b, now.debt(a, b) - less);
        now.setDebt(b, a, now.debt(b, a) + worth - less);
        paid.forEach(l -> now.lakes.get(l).owner = b);
        now.kept.add(new int[] {now.night, a, b, worth});
        return worth;
    }

    int strike() {
        List<Integer> ring = takeTape();
        if (ring.size() < 2 || ring.size() > 6 || new HashSet<>(ring).size() < ring.size()
                || !ring.stream().allMatch(this::isOwner)) {
            return refuse(3);
        }
        int least = Integer.MAX_VALUE;
        for (int k = 0; k < ring.size(); k++) {
            least = Math.min(least, now.debt(ring.get(k), ring.get((k + 1) % ring.size())));
        }
        if (least == 0) {
            return refuse(3);
        }
        act();
        for (int k = 0; k < ring.size(); k++) {
            int a = ring.get(k);
            int b = ring.get((k + 1) % ring.size());
            now.setDebt(a, b, now.debt(a, b) - least);
        }
        return least;
    }

    boolean undo() {
        if (past.isEmpty()) {
            return refuseFalse(4);
        }
        now = past.removeLast();
        return true;
    }

    boolean seed(int seed) {
        if (seed < 0) {
            return refuseFalse(5);
        }
        x = seed;
        return true;
    }

    int kept(int k, int what) {
        List<int[]> told = now.kept.subList(Math.max(0, now.kept.size() - 40), now.kept.size());
        return k >= 0 && k < told.size() && what >= 0 && what <= 3 ? told.get(k)[what] : -1;
    }

    // ---- images, refusals

    static int check(List<Integer> row) {
        int c = 149;
        for (int octet : row) {
            c = (5 * c + octet) % 251;
        }
        return c;
    }

    int image() {
        List<Integer> row = new ArrayList<>(List.of(now.night >> 8, now.night & 255));
        for (Lake l : now.lakes) {
            row.addAll(List.of(l.barrels >> 8, l.barrels & 255, l.gone() ? 255 : l.hollow, l.gone() ? 255 : l.owner));
        }
        for (int a = 0; a < land.owners.size(); a++) {
            for (int b = 0; b < land.owners.size(); b++) {
                row.addAll(List.of(now.debt(a, b) >> 8, now.debt(a, b) & 255));
            }
        }
        row.add(check(row));
        octets = row;
        return row.size();
    }

    int octet(int k) {
        return k >= 0 && k < octets.size() ? octets.get(k) : -1;
    }

    boolean on() {
        List<Integer> row = takeTape();
        int owners = land.owners.size();
        if (row.size() != 3 + 4 * land.lakes.size() + 2 * owners * owners
                || row.get(row.size() - 1) != check(row.subList(0, row.size() - 1))) {
            return refuseFalse(5);
        }
        State s = new State();
        Deque<Integer> rest = new ArrayDeque<>(row);
        s.night = rest.pop() * 256 + rest.pop();
        boolean good = s.night <= 9999;
        for (int i = 0; i < land.lakes.size(); i++) {
            Lake l = new Lake(rest.pop() * 256 + rest.pop(), rest.pop(), rest.pop());
            s.lakes.add(l);
            good &= l.barrels <= 999 && (l.gone() ? l.hollow == 255 && l.owner == 255
                    : isHollow(l.hollow) && isOwner(l.owner));
        }
        for (int h = 0; good && h < land.hollows.size(); h++) {
            good = room(land, s, h) >= 0;
        }
        for (int a = 0; a < owners; a++) {
            for (int b = 0; b < owners; b++) {
                int debt = rest.pop() * 256 + rest.pop();
                s.setDebt(a, b, debt);
                good &= debt <= 9999 && (a != b || debt == 0);
            }
        }
        if (!good) {
            return refuseFalse(5);
        }
        now = s;
        past.clear();
        return true;
    }

    int status(int what) {
        return what >= 0 && what < 6 ? refused[what] : -1;
    }
}
