import java.util.ArrayList;
import java.util.List;
import java.util.Random;

/** Makes texts of lowlands, good ones and spoilt ones, the same ones for the same seed. */
final class Texts {
    private final Random random;
    private final List<String> hollows = new ArrayList<>();
    private final List<Integer> rooms = new ArrayList<>();
    private final List<String> owners = new ArrayList<>();
    private final List<String> lakes = new ArrayList<>();
    private int names = 0;

    Texts(Random random) {
        this.random = random;
    }

    private int below(int n) {
        return random.nextInt(n);
    }

    /** A good text that a tape can hold. */
    String good() {
        String text = goodOfAnyLength();
        while (text.length() > 1600) {
            forget();
            text = goodOfAnyLength();
        }
        return text;
    }

    /** Likewise, of narrow hollows in which lakes are in each other's way. */
    String narrow() {
        String text = narrowOfAnyLength();
        while (text.length() > 1600) {
            forget();
            text = narrowOfAnyLength();
        }
        return text;
    }

    private void forget() {
        hollows.clear();
        rooms.clear();
        owners.clear();
        lakes.clear();
    }

    private String goodOfAnyLength() {
        List<String> all = new ArrayList<>();
        int manyHollows = below(6) == 0 ? 8 : 1 + below(8);
        int manyOwners = 1 + below(6);
        for (int i = 0; i < manyHollows; i++) {
            int holds = below(4) == 0 ? 1 + below(999) : 20 + below(120);
            hollows.add(newName());
            rooms.add(holds);
            all.add("hollow " + hollows.get(i) + " holds " + holds + " at " + below(100));
        }
        for (int i = 0; i < manyOwners; i++) {
            owners.add(newName());
            all.add("owner " + owners.get(i));
        }
        int manyLakes = below(5) == 0 ? 8 : below(9);
        for (int i = 0; i < manyLakes; i++) {
            addLake(all);
        }
        for (int i = below(14); i > 0 && manyOwners > 1; i--) {
            int a = below(manyOwners);
            int b = (a + 1 + below(manyOwners - 1)) % manyOwners;
            all.add("owes " + owners.get(a) + " " + owners.get(b) + " " + below(below(3) == 0 ? 1000 : 40));
        }
        addRules(all);
        StringBuilder text = new StringBuilder();
        for (String statement : all) {
            text.append(blanked(statement)).append(blank()).append(';').append(blank());
        }
        return text.toString();
    }

    private void addLake(List<String> all) {
        int hollow = below(hollows.size());
        int room = rooms.get(hollow);
        if (room == 0) {
            return;
        }
        int barrels = 1 + below(below(3) == 0 ? room : Math.min(room, 30));
        rooms.set(hollow, room - barrels);
        lakes.add(newName());
        all.add("lake " + lakes.get(lakes.size() - 1) + " has " + barrels + " in " + hollows.get(hollow) + " of "
                + owners.get(below(owners.size())));
    }

    private void addRules(List<String> all) {
        if (below(5) > 0) {
            all.add(below(all.size() + 1), "leaks " + (below(2) == 0 ? leaksLike() : sum(0, 3)));
        }
        if (below(5) > 0) {
            all.add(below(all.size() + 1), "worth " + (below(2) == 0 ? worthLike() : sum(1, 3)));
        }
        if (below(5) > 0) {
            all.add(below(all.size() + 1), "may " + (below(2) == 0 ? mayLike() : test(2, 3)));
        }
        if (below(2) == 0) {
            all.add(below(all.size() + 1), "drought " + below(101));
        }
        if (below(3) == 0) {
            all.add(below(all.size() + 1), "carts " + (1 + below(below(2) == 0 ? 999 : 40)));
        }
    }

    private String leaksLike() {
        String[] forms = {"has/" + (5 + below(20)), "1", "beside", "if(drought=1,has/3,has/" + (9 + below(30)) + ")",
                "night%" + (2 + below(5)), "if(has>" + below(40) + ",2,0)", "has/20+beside-1"};
        return forms[below(forms.length)];
    }

    private String worthLike() {
        String[] forms = {"has*" + (1 + below(9)), "has-beside*3+night%7", "max(0,30-has)", "night*has%41",
                "9000+has*20", "if(beside>0,has,2*has)", "has/3", "100-night"};
        return forms[below(forms.length)];
    }

    private String mayLike() {
        String[] forms = {"steps<" + (10 + below(90)), "free>" + below(80), "beside<" + (1 + below(3)), "all",
                "not [steps>50 or free<" + below(60) + "]", "has<" + below(60) + " and beside>0",
                "beside=1 or free>100", "steps%2=" + below(2)};
        return forms[below(forms.length)];
    }

    String newName() {
        names++;
        int length = 1 + below(6);
        StringBuilder name = new StringBuilder();
        for (int n = names; n > 0; n /= 26) {
            name.append((char) ('a' + n % 26));
        }
        while (name.length() < length) {
            name.append((char) ('a' + below(26)));
        }
        String made = name.toString();
        boolean taken = hollows.contains(made) || owners.contains(made) || lakes.contains(made);
        return taken || Oracle.OWN.contains(made) ? newName() : made;
    }

    private String blank() {
        int roll = below(12);
        return roll == 0 ? " " : roll == 1 ? "\n" : "";
    }

    /** Blanks doubled here and there; those that stand there must stay. */
    private String blanked(String statement) {
        StringBuilder made = new StringBuilder();
        for (char c : statement.toCharArray()) {
            boolean text = Character.isLetterOrDigit(c);
            made.append(text ? "" : blank()).append(c).append(text ? "" : blank());
        }
        return made.toString();
    }

    /** A sum in leaks (0), worth (1) or may (2). */
    String sum(int rule, int depth) {
        StringBuilder made = new StringBuilder(product(rule, depth));
        while (below(3) == 0) {
            made.append(below(2) == 0 ? "+" : "-").append(product(rule, depth));
        }
        return made.toString();
    }

    private String product(int rule, int depth) {
        StringBuilder made = new StringBuilder(part(rule, depth));
        while (below(3) == 0) {
            made.append("*/%".charAt(below(3))).append(part(rule, depth));
        }
        return made.toString();
    }

    private String part(int rule, int depth) {
        switch (below(depth > 0 ? 12 : 6)) {
            case 0: return String.valueOf(below(10));
            case 1: return String.valueOf(below(10000));
            case 2: return "has";
            case 3: return "night";
            case 4: return "beside";
            case 5: return rule == 0 ? "drought" : rule == 1 ? "0" + below(100) : below(2) == 0 ? "steps" : "free";
            case 6: return "min(" + sum(rule, depth - 1) + "," + sum(rule, depth - 1) + ")";
            case 7: return "max(" + sum(rule, depth - 1) + "," + sum(rule, depth - 1) + ")";
            case 8: return "if(" + test(rule, depth - 1) + "," + sum(rule, depth - 1) + "," + sum(rule, depth - 1) + ")";
            default: return "(" + sum(rule, depth - 1) + ")";
        }
    }

    String test(int rule, int depth) {
        StringBuilder made = new StringBuilder(both(rule, depth));
        while (below(4) == 0) {
            made.append(" or ").append(both(rule, depth));
        }
        return made.toString();
    }

    private String both(int rule, int depth) {
        StringBuilder made = new StringBuilder(fact(rule, depth));
        while (below(4) == 0) {
            made.append(" and ").append(fact(rule, depth));
        }
        return made.toString();
    }

    private String fact(int rule, int depth) {
        switch (below(depth > 0 ? 8 : 5)) {
            case 0: return "all";
            case 5: return "not " + fact(rule, depth - 1);
            case 6: return "[" + test(rule, depth - 1) + "]";
            default: return sum(rule, depth) + "<>=".charAt(below(3)) + sum(rule, depth);
        }
    }

    /** A text with a few places changed: often one with a fault. */
    String spoilt(String text) {
        String made = text;
        for (int i = 1 + below(2); i > 0; i--) {
            made = spoiltOnce(made);
        }
        return made.length() > 1600 ? made.substring(0, 1600) : made;
    }

    private String spoiltOnce(String text) {
        int at = below(text.length() + 1);
        String head = text.substring(0, at);
        String tail = text.substring(at);
        switch (below(11)) {
            case 0: return head;
            case 1: return tail.isEmpty() ? head : head + tail.substring(1);
            case 2: return head + (char) below(256) + tail;
            case 3: return head + "();,[]+-*/%<>= \n".charAt(below(16)) + tail;
            case 4: return head + " " + Oracle.OWN.get(below(25)) + " " + tail;
            case 5: return head + (char) ('a' + below(26)) + tail;
            case 6: return head + (char) ('0' + below(10)) + tail;
            case 7: return spoiltStatement(text);
            case 8: return spoiltDepth(text);
            case 9: return head + tooLong() + tail;
            default: return spoiltWord(text);
        }
    }

    /** Letters or digits that may be too many, and may stand side by side with what is ahead of them. */
    private String tooLong() {
        return below(2) == 0 ? "abcdefghi".substring(0, 5 + below(5)) : "1234567".substring(0, 3 + below(5));
    }

    /** A rule ahead of all else, with so many open at once that it may be one too many. */
    private String spoiltDepth(String text) {
        StringBuilder made = new StringBuilder("may ");
        String closing = "";
        String[] opening = {"not ", "[", "[not ", "if(", "(", "min(1,", "max("};
        int test = below(5);
        for (int i = 0; i < test; i++) {
            String next = opening[below(3)];
            made.append(next);
            closing = (next.startsWith("[") ? "]" : "") + closing;
        }
        closing = "<has" + closing;
        for (int i = below(6); i > 0; i--) {
            String next = opening[4 + below(3)];
            made.append(next);
            closing = (next.equals("max(") ? ",steps)" : ")") + closing;
        }
        return made.append("free").append(closing).append(';').append(text).toString();
    }

    private String narrowOfAnyLength() {
        StringBuilder text = new StringBuilder();
        int manyHollows = 2 + below(5);
        for (int i = 0; i < manyHollows; i++) {
            hollows.add(newName());
            rooms.add(4 + below(14));
            text.append("hollow ").append(hollows.get(i)).append(" holds ").append(rooms.get(i)).append(" at ")
                    .append(below(20)).append(';');
        }
        for (int i = 0; i < 6; i++) {
            owners.add(newName());
            text.append("owner ").append(owners.get(i)).append(';');
        }
        for (int i = 0; i < 8; i++) {
            int hollow = below(manyHollows);
            int barrels = 1 + below(8);
            if (rooms.get(hollow) >= barrels) {
                rooms.set(hollow, rooms.get(hollow) - barrels);
                lakes.add(newName());
                text.append("lake ").append(lakes.get(lakes.size() - 1)).append(" has ").append(barrels).append(" in ")
                        .append(hollows.get(hollow)).append(" of ").append(owners.get(below(2))).append(';');
            }
        }
        for (int i = 0; i < 8; i++) {
            int a = below(6);
            text.append("owes ").append(owners.get(a)).append(' ').append(owners.get((a + 1 + below(5)) % 6))
                    .append(' ').append(below(5)).append(';');
        }
        if (below(3) > 0) {
            text.append("may ").append(below(2) == 0 ? mayLike() : test(2, 2)).append(';');
        }
        return text.toString();
    }

    /** One statement again, or without its place. */
    private String spoiltStatement(String text) {
        String[] all = text.split(";");
        int which = below(all.length);
        int where = below(all.length);
        StringBuilder made = new StringBuilder();
        boolean twice = below(2) == 0;
        for (int i = 0; i < all.length; i++) {
            if (i == where) {
                made.append(all[which]).append(';');
            }
            if (i != which || twice) {
                made.append(all[i]).append(';');
            }
        }
        return made.toString();
    }

    /** One word or number for another one. */
    private String spoiltWord(String text) {
        String[] all = text.split("(?<=[a-z0-9])(?![a-z0-9])|(?<![a-z0-9])(?=[a-z0-9])");
        for (int tries = 0; tries < 50; tries++) {
            int i = below(all.length);
            int j = below(all.length);
            if (!all[i].isEmpty() && Character.isLetterOrDigit(all[i].charAt(0)) && !all[j].isBlank()) {
                all[i] = below(6) == 0 ? String.valueOf(below(12000)) : below(8) == 0 ? all[j] + all[j] : all[j];
                break;
            }
        }
        return String.join("", all);
    }
}
