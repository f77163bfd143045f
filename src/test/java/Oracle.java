import java.util.ArrayList;
import java.util.Arrays;
import java.util.HashMap;
import java.util.HashSet;
import java.util.List;
import java.util.Map;
import java.util.Set;

/**
 * The document once more, written for plainness alone: trees, lists and trials of every case,
 * none of it shared with the class, so that the two can be held against each other.
 */
final class Oracle {
    private static final List<String> WORDS = List.of("dish", "man", "law", "if", "then", "else", "belly",
        "goes", "owe", "hates", "ill", "fast", "hour", "load", "room", "full", "ahead", "left", "sick");
    private static final List<String> VARS = List.of("hour", "load", "room", "full", "ahead", "left", "sick");

    // ---- the text ----

    record Token(String text, int place) {
        boolean isInt() {
            return Character.isDigit(text.charAt(0));
        }

        boolean isName() {
            return Character.isLetter(text.charAt(0)) && !WORDS.contains(text);
        }
    }

    static final class Fault extends RuntimeException {
        private static final long serialVersionUID = 1L;
        final int number;
        final int place;

        Fault(int number, int place) {
            this.number = number;
            this.place = place;
        }
    }

    static final class DividedByZero extends RuntimeException {
        private static final long serialVersionUID = 1L;
    }

    record Expr(char op, int value, Expr left, Expr right) {
        int of(int[] vars) {
            if (op == 'n') {
                return value;
            }
            if (op == 'v') {
                return vars[value];
            }
            int a = left.of(vars);
            int b = right.of(vars);
            switch (op) {
                case '+':
                    return a + b;
                case '-':
                    return a - b;
                case '*':
                    return a * b;
                default:
                    if (b == 0) {
                        throw new DividedByZero();
                    }
                    return a / b;
            }
        }
    }

    record If(Expr less, Expr more, Expr then) {
    }

    record Law(List<If> ifs, Expr last) {
        int bites(int[] vars) {
            try {
                for (If one : ifs) {
                    if (one.less.of(vars) < one.more.of(vars)) {
                        return Math.max(0, Math.min(6, one.then.of(vars)));
                    }
                }
                return Math.max(0, Math.min(6, last.of(vars)));
            } catch (DividedByZero none) {
                return 0;
            }
        }
    }

    static final class Dish {
        String name;
        int bulk;
        int gain;
        int store;
    }

    static final class Man {
        String name;
        int belly;
        int full;
        int empties;
        int load;
        Set<Integer> hates = new HashSet<>();
        Map<Integer, Integer> ill = new HashMap<>();
        int from = 99;
        int to = -1;
    }

    static final class Text {
        List<Dish> dishes = new ArrayList<>();
        List<Man> men = new ArrayList<>();
        List<int[]> bellies = new ArrayList<>();
        List<int[]> goings = new ArrayList<>();
        List<int[]> debts = new ArrayList<>();
        Map<Integer, Law> laws = new HashMap<>();
        List<String> names = new ArrayList<>();
    }

    static final class State {
        int hour;
        int day;
        int[] full = new int[8];
        int[] sick = new int[8];
        int[] eaten = new int[8];
        boolean[] passed = new boolean[8];
        int[] store = new int[4];
        int[] gone = new int[4];
        int[] gain = new int[2];
        int[] ahead = new int[2];

        State copy() {
            State s = new State();
            s.hour = hour;
            s.day = day;
            s.full = full.clone();
            s.sick = sick.clone();
            s.eaten = eaten.clone();
            s.passed = passed.clone();
            s.store = store.clone();
            s.gone = gone.clone();
            s.gain = gain.clone();
            s.ahead = ahead.clone();
            return s;
        }
    }

    private final List<Integer> tape = new ArrayList<>();
    private int faultPlace = -1;
    private Text text = new Text();
    private State now = new State();
    private List<State> past = new ArrayList<>();
    private State[] slots = new State[3];
    private List<int[]> book = new ArrayList<>();

    int feed(int... five) {
        if (tape.size() + 20 > 2000) {
            return -1;
        }
        for (int four : five) {
            tape.add(four >>> 24);
            tape.add(four >>> 16 & 255);
            tape.add(four >>> 8 & 255);
            tape.add(four & 255);
        }
        return tape.size();
    }

    int back(int n) {
        if (n < 0 || n > tape.size()) {
            return -1;
        }
        for (int i = 0; i < n; i++) {
            tape.remove(tape.size() - 1);
        }
        return tape.size();
    }

    // The parser knows no bounds: what has too much room is looked for in the tokens alone.
    private List<Token> tokens;
    private int noToken;
    private int at;

    private void tokenise() {
        tokens = new ArrayList<>();
        noToken = -1;
        int i = 0;
        while (i < tape.size()) {
            int c = tape.get(i);
            if (c == 9 || c == 10 || c == 13 || c == 32) {
                i++;
                continue;
            }
            StringBuilder run = new StringBuilder();
            int start = i;
            while (i < tape.size() && isLetter(c) && isLetter(tape.get(i))
                || i < tape.size() && isDigit(c) && isDigit(tape.get(i))) {
                run.append((char) (int) tape.get(i));
                i++;
            }
            boolean sign = c < 128 && ";=+-*/<()".indexOf(c) >= 0;
            if (sign) {
                run.append((char) c);
                i++;
            }
            boolean fits = sign || isLetter(c) && run.length() <= 8 || isDigit(c) && run.length() <= 4;
            if (run.length() == 0 || !fits) {
                noToken = start;
                return;
            }
            tokens.add(new Token(run.toString(), start));
        }
    }

    private static boolean isLetter(int c) {
        return c >= 'a' && c <= 'z';
    }

    private static boolean isDigit(int c) {
        return c >= '0' && c <= '9';
    }

    private String peek() {
        return at < tokens.size() ? tokens.get(at).text : "";
    }

    private int placeNow() {
        return at < tokens.size() ? tokens.get(at).place : noToken >= 0 ? noToken : tape.size();
    }

    private Token must(String what) {
        boolean fits = at < tokens.size() && (what.equals("NAME") ? tokens.get(at).isName()
            : what.equals("INT") ? tokens.get(at).isInt() : peek().equals(what));
        if (!fits) {
            throw new Fault(1, placeNow());
        }
        return tokens.get(at++);
    }

    private void form() {
        at = 0;
        while (at < tokens.size() || noToken >= 0) {
            String first = peek();
            if (!List.of("dish", "man", "law", "belly", "goes", "owe").contains(first)) {
                throw new Fault(1, placeNow());
            }
            at++;
            if (first.equals("law")) {
                must("INT");
                must("NAME");
                must("=");
                law();
            } else {
                String[] parts = first.equals("dish") ? new String[] {"NAME", "INT", "INT", "INT"}
                    : first.equals("man") ? new String[] {"NAME", "INT", "INT", "INT", "INT"}
                    : first.equals("belly") ? new String[] {"NAME", "INT", "INT"}
                    : first.equals("goes") ? new String[] {"NAME", "INT"} : new String[] {"NAME", "NAME", "INT"};
                for (String part : parts) {
                    must(part);
                }
                while (first.equals("man") && List.of("hates", "ill", "fast").contains(peek())) {
                    String trait = tokens.get(at++).text;
                    must(trait.equals("fast") ? "INT" : "NAME");
                    if (!trait.equals("hates")) {
                        must("INT");
                    }
                }
            }
            must(";");
        }
    }

    private Law law() {
        List<If> ifs = new ArrayList<>();
        while (peek().equals("if")) {
            at++;
            Expr less = sum();
            must("<");
            Expr more = sum();
            must("then");
            Expr then = sum();
            must("else");
            ifs.add(new If(less, more, then));
        }
        return new Law(ifs, sum());
    }

    private Expr sum() {
        Expr e = product();
        while (peek().equals("+") || peek().equals("-")) {
            char op = tokens.get(at++).text.charAt(0);
            e = new Expr(op, 0, e, product());
        }
        return e;
    }

    private Expr product() {
        Expr e = unit();
        while (peek().equals("*") || peek().equals("/")) {
            char op = tokens.get(at++).text.charAt(0);
            e = new Expr(op, 0, e, unit());
        }
        return e;
    }

    private Expr unit() {
        if (VARS.contains(peek())) {
            return new Expr('v', VARS.indexOf(tokens.get(at++).text), null, null);
        }
        if (peek().equals("(")) {
            at++;
            Expr e = sum();
            must(")");
            return e;
        }
        return new Expr('n', Integer.parseInt(must("INT").text), null, null);
    }

    /** The first token for which there is no room, or none. */
    private Fault roomFault() {
        Map<String, Integer> told = new HashMap<>();
        Map<String, Integer> most = Map.of("dish", 4, "man", 8, "belly", 6, "goes", 20, "owe", 20, "law", 8);
        int ifs = 0;
        int nested = 0;
        for (int i = 0; i < tokens.size(); i++) {
            String t = tokens.get(i).text;
            boolean over = i == 400;
            if (most.containsKey(t)) {
                told.merge(t, 1, Integer::sum);
                over |= told.get(t) > most.get(t);
                ifs = 0;
            }
            ifs += t.equals("if") ? 1 : 0;
            over |= ifs > 4;
            nested += t.equals("(") ? 1 : t.equals(")") ? -1 : 0;
            over |= nested > 6;
            if (over) {
                return new Fault(2, tokens.get(i).place);
            }
        }
        return null;
    }

    private int number(int least, int most) {
        Token t = must("INT");
        int n = Integer.parseInt(t.text);
        if (n < least || n > most) {
            throw new Fault(5, t.place);
        }
        return n;
    }

    private String fresh(Text draft) {
        Token t = must("NAME");
        if (draft.names.contains(t.text)) {
            throw new Fault(3, t.place);
        }
        return t.text;
    }

    private int dishNamed(Text draft) {
        Token t = must("NAME");
        for (int i = 0; i < draft.dishes.size(); i++) {
            if (draft.dishes.get(i).name.equals(t.text)) {
                return i;
            }
        }
        throw new Fault(4, t.place);
    }

    private int manNamed(Text draft) {
        Token t = must("NAME");
        for (int i = 0; i < draft.men.size(); i++) {
            if (draft.men.get(i).name.equals(t.text)) {
                return i;
            }
        }
        throw new Fault(4, t.place);
    }

    private Text sense() {
        Text draft = new Text();
        at = 0;
        while (at < tokens.size()) {
            String first = tokens.get(at++).text;
            if (first.equals("dish")) {
                Dish d = new Dish();
                d.name = fresh(draft);
                d.bulk = number(1, 9);
                d.gain = number(0, 99);
                d.store = number(0, 999);
                draft.dishes.add(d);
                draft.names.add(d.name);
            } else if (first.equals("man")) {
                Man m = new Man();
                m.name = fresh(draft);
                m.belly = number(0, 99);
                m.full = number(0, m.belly);
                m.empties = number(0, 9);
                m.load = number(0, 999);
                while (!peek().equals(";")) {
                    String trait = tokens.get(at++).text;
                    if (trait.equals("hates")) {
                        m.hates.add(dishNamed(draft));
                    } else if (trait.equals("ill")) {
                        int dish = dishNamed(draft);
                        m.ill.put(dish, number(1, 6));
                    } else {
                        m.from = number(0, 23);
                        m.to = number(m.from, 23);
                    }
                }
                draft.men.add(m);
                draft.names.add(m.name);
            } else if (first.equals("belly")) {
                String name = fresh(draft);
                draft.bellies.add(new int[] {number(0, 99), number(0, 99)});
                draft.names.add(name);
            } else if (first.equals("goes")) {
                draft.goings.add(new int[] {manNamed(draft), number(0, 23)});
            } else if (first.equals("owe")) {
                int debtor = manNamed(draft);
                int place = placeNow();
                int owed = manNamed(draft);
                if (owed == debtor) {
                    throw new Fault(5, place);
                }
                draft.debts.add(new int[] {debtor, owed, number(1, 99)});
            } else {
                int gate = number(0, 1);
                int dish = dishNamed(draft);
                must("=");
                draft.laws.put(gate * 10 + dish, law());
            }
            must(";");
        }
        return draft;
    }

    int read() {
        try {
            tokenise();
            Fault room = roomFault();
            try {
                form();
            } catch (Fault syntax) {
                throw room != null && room.place < syntax.place ? room : syntax;
            }
            if (room != null) {
                throw room;
            }
            text = sense();
            now = begin();
            past.clear();
            slots = new State[3];
            book.clear();
            faultPlace = -1;
            return 0;
        } catch (Fault fault) {
            faultPlace = fault.place;
            return fault.number;
        } finally {
            tape.clear();
        }
    }

    int place() {
        return faultPlace;
    }

    // ---- the state ----

    private State begin() {
        State s = new State();
        for (int i = 0; i < text.men.size(); i++) {
            s.full[i] = text.men.get(i).full;
        }
        for (int i = 0; i < text.dishes.size(); i++) {
            s.store[i] = text.dishes.get(i).store;
        }
        return s;
    }

    private void hour(State s) {
        for (int i = 0; i < text.men.size(); i++) {
            s.full[i] = Math.max(0, s.full[i] - text.men.get(i).empties);
            if (s.sick[i] > 0) {
                s.sick[i]--;
            }
        }
        if (++s.hour == 24) {
            s.hour = 0;
            s.day++;
            s.passed = new boolean[8];
            s.ahead = new int[2];
        }
    }

    private int[] toll(State s, int man, int gate, int more) {
        int[] bites = new int[text.dishes.size()];
        Man m = text.men.get(man);
        for (int d = 0; d < bites.length; d++) {
            Law law = text.laws.get(gate * 10 + d);
            if (law != null) {
                bites[d] = law.bites(new int[] {s.hour, m.load, m.belly - s.full[man], s.full[man],
                    s.ahead[gate] + more, s.store[d], s.sick[man] > 0 ? 1 : 0});
            }
        }
        return bites;
    }

    private int bulk(int[] bites) {
        int sum = 0;
        for (int d = 0; d < bites.length; d++) {
            sum += bites[d] * text.dishes.get(d).bulk;
        }
        return sum;
    }

    private int gain(int[] bites) {
        int sum = 0;
        for (int d = 0; d < bites.length; d++) {
            sum += bites[d] * text.dishes.get(d).gain;
        }
        return sum;
    }

    private static int sum(int[] bites) {
        return Arrays.stream(bites).sum();
    }

    private boolean fasts(State s, int man) {
        return s.hour >= text.men.get(man).from && s.hour <= text.men.get(man).to;
    }

    private boolean enough(State s, int[] bites) {
        for (int d = 0; d < bites.length; d++) {
            if (bites[d] > s.store[d]) {
                return false;
            }
        }
        return true;
    }

    private int why(State s, int man, int[] bites, boolean stores) {
        if (s.sick[man] > 0) {
            return 1;
        }
        if (fasts(s, man) && sum(bites) > 0) {
            return 2;
        }
        for (int d = 0; d < bites.length; d++) {
            if (bites[d] > 0 && text.men.get(man).hates.contains(d)) {
                return 3;
            }
        }
        if (stores && !enough(s, bites)) {
            return 4;
        }
        return s.full[man] + bulk(bites) > text.men.get(man).belly ? 5 : 0;
    }

    private void swallow(State s, int man, int gate, int[] bites) {
        s.full[man] += bulk(bites);
        s.gain[gate] += gain(bites);
        s.eaten[man] += sum(bites);
        s.passed[man] = true;
        s.ahead[gate]++;
        for (int d = 0; d < bites.length; d++) {
            s.store[d] -= bites[d];
            s.gone[d] += bites[d];
            if (bites[d] >= text.men.get(man).ill.getOrDefault(d, 99)) {
                s.sick[man] = 12;
            }
        }
    }

    private boolean isMan(int man) {
        return man >= 0 && man < text.men.size();
    }

    private boolean isDish(int dish) {
        return dish >= 0 && dish < text.dishes.size();
    }

    private boolean isGate(int gate) {
        return gate == 0 || gate == 1;
    }

    private boolean isSet(int set) {
        return set >= 0 && set >> text.men.size() == 0;
    }

    int man(int man, int what) {
        if (!isMan(man) || what < 0 || what > 5) {
            return -1;
        }
        return new int[] {now.full[man], text.men.get(man).belly - now.full[man], now.sick[man], now.eaten[man],
            text.men.get(man).load, now.passed[man] ? 1 : 0}[what];
    }

    int dish(int dish, int what) {
        if (!isDish(dish) || what < 0 || what > 3) {
            return -1;
        }
        Dish d = text.dishes.get(dish);
        return new int[] {now.store[dish], d.bulk, d.gain, now.gone[dish]}[what];
    }

    int toll(int man, int gate, int dish) {
        if (!isMan(man) || !isGate(gate) || dish != -1 && !isDish(dish)) {
            return -1;
        }
        int[] bites = toll(now, man, gate, 0);
        return dish == -1 ? bulk(bites) : bites[dish];
    }

    int may(int man, int gate) {
        return isMan(man) && isGate(gate) ? why(now, man, toll(now, man, gate, 0), true) : -1;
    }

    private void doThing() {
        past.add(now.copy());
        if (past.size() > 30) {
            past.remove(0);
        }
    }

    int pass(int man, int gate) {
        int may = may(man, gate);
        if (may == 0) {
            doThing();
            swallow(now, man, gate, toll(now, man, gate, 0));
        }
        return may;
    }

    int later(int n) {
        if (n < 0 || n > 240) {
            return -1;
        }
        if (n > 0) {
            doThing();
        }
        for (int i = 0; i < n; i++) {
            hour(now);
        }
        return now.hour;
    }

    boolean undo() {
        if (past.isEmpty()) {
            return false;
        }
        now = past.remove(past.size() - 1);
        return true;
    }

    int when(int man, int gate) {
        if (!isMan(man) || !isGate(gate)) {
            return -1;
        }
        State s = now.copy();
        for (int i = 0; i < 24; i++) {
            if (why(s, man, toll(s, man, gate, 0), true) == 0) {
                return i;
            }
            hour(s);
        }
        return -2;
    }

    // ---- bites shared out ----

    private Set<String> mouthsTried;

    /** Whether the mouths from one on can swallow what is left: every way to fill each is tried. */
    private boolean fill(int mouth, List<int[]> mouths, int[] left) {
        if (sum(left) == 0) {
            return true;
        }
        if (mouth == mouths.size() || !mouthsTried.add(mouth + Arrays.toString(left))) {
            return false;
        }
        return fillFrom(0, mouths.get(mouth)[0], mouth, mouths, left.clone());
    }

    private boolean fillFrom(int dish, int room, int mouth, List<int[]> mouths, int[] left) {
        if (dish == left.length) {
            return fill(mouth + 1, mouths, left);
        }
        int had = left[dish];
        int bulk = text.dishes.get(dish).bulk;
        boolean hated = (mouths.get(mouth)[1] >> dish & 1) != 0;
        for (int bites = hated ? 0 : Math.min(had, room / bulk); bites >= 0; bites--) {
            left[dish] = had - bites;
            if (fillFrom(dish + 1, room - bites * bulk, mouth, mouths, left)) {
                return true;
            }
        }
        left[dish] = had;
        return false;
    }

    int hire(int man, int gate, int what) {
        if (!isMan(man) || !isGate(gate) || what != 0 && what != 1) {
            return -1;
        }
        int[] bites = toll(now, man, gate, 0);
        if (!enough(now, bites)) {
            return -2;
        }
        int best = -1;
        int bestFee = 0;
        for (int bits = 0; bits < 1 << text.bellies.size(); bits++) {
            int fee = 0;
            List<int[]> mouths = new ArrayList<>();
            if (now.sick[man] == 0 && !fasts(now, man)) {
                int hated = 0;
                for (int d : text.men.get(man).hates) {
                    hated |= 1 << d;
                }
                mouths.add(new int[] {text.men.get(man).belly - now.full[man], hated});
            }
            for (int b = 0; b < text.bellies.size(); b++) {
                if ((bits >> b & 1) != 0) {
                    fee += text.bellies.get(b)[1];
                    mouths.add(new int[] {text.bellies.get(b)[0], 0});
                }
            }
            mouthsTried = new HashSet<>();
            if ((best < 0 || fee < bestFee) && fill(0, mouths, bites.clone())) {
                best = bits;
                bestFee = fee;
            }
        }
        return best < 0 ? -2 : what == 0 ? bestFee : best;
    }

    /** All ways to take some of the bites, as rows. */
    private static List<int[]> parts(int[] bites) {
        List<int[]> all = new ArrayList<>();
        int ways = 1;
        for (int b : bites) {
            ways *= b + 1;
        }
        for (int way = 0; way < ways; way++) {
            int[] part = new int[bites.length];
            int rest = way;
            for (int d = 0; d < bites.length; d++) {
                part[d] = rest % (bites[d] + 1);
                rest /= bites[d] + 1;
            }
            all.add(part);
        }
        return all;
    }

    private boolean swallows(int man, int[] bites) {
        return sum(bites) == 0 || why(now, man, bites, false) == 0;
    }

    int tongue(int man, int gate) {
        if (!isMan(man) || !isGate(gate)) {
            return -1;
        }
        int[] bites = toll(now, man, gate, 0);
        if (!enough(now, bites)) {
            return -2;
        }
        int most = 0;
        for (int[] part : parts(bites)) {
            if (swallows(man, part)) {
                most = Math.max(most, sum(part));
            }
        }
        return sum(bites) - most;
    }

    int split(int man, int other, int gate) {
        if (!isMan(man) || !isMan(other) || man == other || !isGate(gate)) {
            return -1;
        }
        int[] both = toll(now, man, gate, 0);
        int[] more = toll(now, other, gate, 1);
        for (int d = 0; d < both.length; d++) {
            both[d] += more[d];
        }
        int fewest = -2;
        for (int[] part : parts(both)) {
            int[] rest = both.clone();
            for (int d = 0; d < rest.length; d++) {
                rest[d] -= part[d];
            }
            if (swallows(man, part) && swallows(other, rest) && (fewest < 0 || sum(part) < fewest)) {
                fewest = sum(part);
            }
        }
        return enough(now, both) ? fewest : -2;
    }

    int together(int man, int other, int gate) {
        int fewest = split(man, other, gate);
        return fewest == -1 ? -1 : fewest == -2 ? 0 : 1;
    }

    long odds(int k, int a, int b) {
        if (k < 0 || k > 18 || b < 1 || b > 10 || a < 0 || a > b) {
            return -1;
        }
        return java.math.BigInteger.valueOf(b - a).pow(k).longValueExact();
    }

    // ---- plans ----

    private State[] hours;
    private Map<Integer, Integer> known;

    private void lookAhead() {
        hours = new State[24];
        State s = now.copy();
        for (int h = now.hour; h < 24; h++) {
            hours[h] = s.copy();
            hour(s);
        }
        known = new HashMap<>();
    }

    /** Every order and every hour of each: the least sum from an hour on, or null if it can't be. */
    private Integer plan(int hour, int waiting, int ahead, int gate, int last, int what) {
        if (waiting == 0) {
            return 0;
        }
        if (hour > last) {
            return null;
        }
        int key = hour * 256 + waiting;
        if (known.containsKey(key)) {
            return known.get(key);
        }
        Integer best = plan(hour + 1, waiting, ahead, gate, last, what);
        for (int m = 0; m < 8; m++) {
            if ((waiting >> m & 1) == 0) {
                continue;
            }
            int[] bites = toll(hours[hour], m, gate, ahead);
            if (why(hours[hour], m, bites, false) != 0) {
                continue;
            }
            Integer rest = plan(hour, waiting & ~(1 << m), ahead + 1, gate, last, what);
            if (rest != null) {
                int cost = rest + (what == 0 ? bulk(bites) : -gain(bites));
                best = best == null || cost < best ? Integer.valueOf(cost) : best;
            }
        }
        known.put(key, best);
        return best;
    }

    int soonest(int set, int gate) {
        if (!isSet(set) || !isGate(gate)) {
            return -1;
        }
        for (int last = now.hour; last < 24; last++) {
            lookAhead();
            if (plan(now.hour, set, 0, gate, last, 0) != null) {
                return last;
            }
        }
        return -2;
    }

    int least(int set, int gate, boolean gain) {
        if (!isSet(set) || !isGate(gate)) {
            return -1;
        }
        lookAhead();
        Integer best = plan(now.hour, set, 0, gate, 23, gain ? 1 : 0);
        return best == null ? -2 : gain ? -best : best;
    }

    int crowd(int set, int gate, int what) {
        if (!isSet(set) || !isGate(gate) || what != 0 && what != 1) {
            return -1;
        }
        int best = 0;
        for (int part = 0; part <= set; part++) {
            if ((part & ~set) != 0 || Integer.bitCount(part) <= Integer.bitCount(best)) {
                continue;
            }
            lookAhead();
            if (plan(now.hour, part, 0, gate, 23, 0) != null) {
                best = part;
            }
        }
        return what == 0 ? Integer.bitCount(best) : best;
    }

    int hourOf(int man, int gate, boolean gain) {
        if (!isMan(man) || !isGate(gate)) {
            return -1;
        }
        lookAhead();
        int best = -2;
        int bestCost = 0;
        for (int h = now.hour; h < 24; h++) {
            int[] bites = toll(hours[h], man, gate, 0);
            int cost = gain ? -gain(bites) : bulk(bites);
            if (why(hours[h], man, bites, true) == 0 && (best < 0 || cost < bestCost)) {
                best = h;
                bestCost = cost;
            }
        }
        return best;
    }

    int best(int set, int dish) {
        if (!isSet(set) || dish != -1 && !isDish(dish)) {
            return -1;
        }
        int n = text.dishes.size();
        int[] law = new int[n];
        int[] best = new int[n];
        int bestGain = -1;
        for (int number = 0; number < Math.pow(7, n); number++) {
            int rest = number;
            for (int d = n - 1; d >= 0; d--) {
                law[d] = rest % 7;
                rest /= 7;
            }
            State s = now.copy();
            for (int m = 0; m < text.men.size(); m++) {
                if ((set >> m & 1) != 0 && why(s, m, law, true) == 0) {
                    swallow(s, m, 0, law);
                }
            }
            if (s.gain[0] - now.gain[0] > bestGain) {
                bestGain = s.gain[0] - now.gain[0];
                best = law.clone();
            }
        }
        return dish == -1 ? bestGain : best[dish];
    }

    int day(int what) {
        State s = now.copy();
        int men = 0;
        int away = 0;
        while (s.day == now.day) {
            for (int[] going : text.goings) {
                if (going[1] != s.hour) {
                    continue;
                }
                int gate = -1;
                int least = 0;
                for (int g = 0; g < 2; g++) {
                    int[] bites = toll(s, going[0], g, 0);
                    if (why(s, going[0], bites, true) == 0 && (gate < 0 || bulk(bites) < least)) {
                        gate = g;
                        least = bulk(bites);
                    }
                }
                if (gate < 0) {
                    away++;
                } else {
                    swallow(s, going[0], gate, toll(s, going[0], gate, 0));
                    men |= 1 << going[0];
                }
            }
            hour(s);
        }
        return what == 0 || what == 1 ? s.gain[what] - now.gain[what] : what == 2 ? men : what == 3 ? away : -1;
    }

    // ---- debts ----

    int net(int man) {
        if (!isMan(man)) {
            return -1000000;
        }
        int net = 0;
        for (int[] debt : text.debts) {
            net += debt[1] == man ? debt[2] : debt[0] == man ? -debt[2] : 0;
        }
        return net;
    }

    /** The first who is not even gives or takes all he has to, by any other one. */
    private int hands(int[] nets, int from) {
        int first = from;
        while (first < nets.length && nets[first] == 0) {
            first++;
        }
        if (first == nets.length) {
            return 0;
        }
        int least = 99;
        for (int i = first + 1; i < nets.length; i++) {
            if (nets[i] < 0 != nets[first] < 0 && nets[i] != 0) {
                nets[i] += nets[first];
                least = Math.min(least, 1 + hands(nets, first + 1));
                nets[i] -= nets[first];
            }
        }
        return least;
    }

    int cleared() {
        int[] nets = new int[text.men.size()];
        for (int m = 0; m < nets.length; m++) {
            nets[m] = net(m);
        }
        return hands(nets, 0);
    }

    int gained(int gate) {
        return isGate(gate) ? now.gain[gate] : -1;
    }

    // ---- the book ----

    int enter(int man, int gate, int hour) {
        if (!isMan(man) || !isGate(gate) || hour < 0 || hour > 23 || book.size() == 30
            || !book.isEmpty() && book.get(book.size() - 1)[2] > hour) {
            return -1;
        }
        book.add(new int[] {man, gate, hour});
        return book.size() - 1;
    }

    int burn() {
        int n = book.size();
        book.clear();
        return n;
    }

    private int judged(int k, int without, int[][] led) {
        State s = begin();
        for (int i = 0; i < k; i++) {
            int[] entry = book.get(i);
            if (i == without) {
                continue;
            }
            while (s.hour < entry[2]) {
                hour(s);
            }
            int[] bites = toll(s, entry[0], entry[1], 0);
            int why = why(s, entry[0], bites, true);
            if (why != 0) {
                return 10 * i + why;
            }
            swallow(s, entry[0], entry[1], bites);
            for (int d = 0; d < bites.length; d++) {
                led[entry[0]][d] += bites[d];
            }
        }
        return -2;
    }

    int judge(int k) {
        return k < 0 || k > book.size() ? -1 : judged(k, -1, new int[8][4]);
    }

    int odd(int k) {
        if (k < 0 || k > book.size()) {
            return -1;
        }
        for (int i = 0; i < k && judged(k, -1, new int[8][4]) != -2; i++) {
            if (judged(k, i, new int[8][4]) == -2) {
                return i;
            }
        }
        return -2;
    }

    int led(int k, int man, int dish) {
        if (k < 0 || k > book.size() || man != -1 && !isMan(man) || dish != -1 && !isDish(dish)) {
            return -1;
        }
        int[][] led = new int[8][4];
        if (judged(k, -1, led) != -2) {
            return -2;
        }
        int sum = 0;
        for (int m = 0; m < 8; m++) {
            for (int d = 0; d < 4; d++) {
                sum += (man == -1 || man == m) && (dish == -1 || dish == d) ? led[m][d] : 0;
            }
        }
        return sum;
    }

    boolean hold(int slot) {
        if (slot < 0 || slot > 2) {
            return false;
        }
        slots[slot] = now.copy();
        return true;
    }

    boolean restore(int slot) {
        if (slot < 0 || slot > 2 || slots[slot] == null) {
            return false;
        }
        now = slots[slot].copy();
        past.clear();
        return true;
    }

    int count(int what) {
        int held = 0;
        for (State slot : slots) {
            held += slot == null ? 0 : 1;
        }
        int[] counts = {text.dishes.size(), text.men.size(), text.bellies.size(), text.goings.size(),
            text.debts.size(), now.hour, now.day, book.size(), tape.size(), past.size(), held, now.ahead[0],
            now.ahead[1]};
        return what < 0 || what >= counts.length ? -1 : counts[what];
    }
}
