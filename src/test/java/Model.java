import java.util.ArrayList;
import java.util.Arrays;
import java.util.Comparator;
import java.util.HashMap;
import java.util.HashSet;
import java.util.LinkedHashSet;
import java.util.List;
import java.util.Map;
import java.util.Set;
import java.util.TreeMap;
import java.util.regex.Matcher;
import java.util.regex.Pattern;

/**
 * The document once more, sentence by sentence and without a thought for speed or room: what
 * SaidRecord answers is held against this. Nothing is shared with it, and where there is a choice
 * the other way was taken (a recogniser for the whole grammar, trees, sets, all rosters).
 */
final class Model {
    record Fact(String kind, int line, int day, int minute, int sort, int seat, int word, int paper,
            int place, int member, int value, int other) {
    }

    record Token(String kind, String text, int at) {
    }

    record Rule(String sort, String name, Tree value, Tree condition, int text, int number) {
    }

    record Text(int day, List<Rule> rules) {
    }

    record Tree(String op, int number, Tree left, Tree right) {
    }

    record Printed(int word, boolean struck, int leftBy, int rightBy, int lets, int who,
            Map<String, Integer> vars) {
    }

    private static final class ByZero extends RuntimeException {
        private static final long serialVersionUID = 1L;
    }

    private static final List<String> SORTS = List.of("right", "mend", "bar", "leave", "court");
    private static final List<String> VARS = List.of("word", "was", "paper", "sort", "minute",
            "member", "office", "days", "times", "heard", "next", "lines");
    private static final Set<String> QUOTED = new HashSet<>(List.of("from", "right", "to", "if",
            "mend", "bar", "leave", "court", "strike", "or", "and", "not"));

    static {
        QUOTED.addAll(VARS);
    }

    private final List<Fact> facts = new ArrayList<>();
    private final List<Text> texts = new ArrayList<>();
    private final StringBuilder tape = new StringBuilder();
    private final List<List<Integer>> rows =
            List.of(new ArrayList<>(), new ArrayList<>(), new ArrayList<>());
    private final int[] speeds = {1, 1, 1, 1};
    private final int[] cants = {0, 0, 0, 0};
    private List<Integer> remembered = List.of();
    private int place = -1;

    // ---- the tape and the texts

    int feed(int a, int b, int c, int d, int e) {
        if (tape.length() + 20 > 2000) {
            return -1;
        }
        for (int x : new int[] {a, b, c, d, e}) {
            tape.append((char) (x >>> 24)).append((char) (x >>> 16 & 255));
            tape.append((char) (x >>> 8 & 255)).append((char) (x & 255));
        }
        return tape.length();
    }

    int back(int n) {
        if (n < 0 || n > tape.length()) {
            return -1;
        }
        tape.setLength(tape.length() - n);
        return tape.length();
    }

    int read() {
        if (texts.size() == 6) {
            return -2;
        }
        String text = tape.toString();
        tape.setLength(0);
        List<Token> tokens = tokens(text);
        TreeMap<Integer, Integer> faults = new TreeMap<>();
        int good = recognised(tokens);
        if (good < tokens.size()) {
            faults.merge(tokens.get(good).at, 1, Math::min);
        }
        addRoomFaults(tokens.subList(0, Math.min(good, tokens.size())), faults);
        if (faults.isEmpty() && tokens.get(0).kind.equals("from")
                && Integer.parseInt(tokens.get(1).text) > 99) {
            faults.put(tokens.get(1).at, 5);
        }
        if (!faults.isEmpty()) {
            place = faults.firstKey();
            return faults.firstEntry().getValue();
        }
        place = -1;
        texts.add(new Builder(tokens, texts.size()).text());
        return 0;
    }

    int place() {
        return place;
    }

    private static List<Token> tokens(String text) {
        Pattern pattern =
                Pattern.compile("([a-z]+)|([0-9]+)|(==|!=|<=|[;+\\-*/<()])|[\\t\\n\\r ]+");
        Matcher matcher = pattern.matcher(text);
        List<Token> tokens = new ArrayList<>();
        int at = 0;
        while (at < text.length()) {
            if (!matcher.find(at) || matcher.start() != at) {
                tokens.add(new Token("?", text.substring(at, at + 1), at));
                return tokens;
            }
            String found = matcher.group();
            if (matcher.group(1) != null) {
                String kind = found.length() > 8 ? "?" : QUOTED.contains(found) ? found : "NAME";
                tokens.add(new Token(kind, found, at));
            } else if (matcher.group(2) != null) {
                tokens.add(new Token(found.length() > 4 ? "?" : "INT", found, at));
            } else if (matcher.group(3) != null) {
                tokens.add(new Token(found, found, at));
            }
            at = matcher.end();
        }
        tokens.add(new Token("$", "", text.length()));
        return tokens;
    }

    // ---- the grammar, letter by letter, and a recogniser for any grammar (Earley's)

    private static final String[][] GRAMMAR = grammar();

    private static String[][] grammar() {
        List<String> all = new ArrayList<>(List.of("WHOLE text $", "text RULES",
                "text from INT ; RULES", "RULES", "RULES RULES RULE", "RULE right NAME to E ;",
                "RULE right NAME to E if COND ;", "RULE strike NAME ;", "COND ALL",
                "COND COND or ALL", "ALL LIT", "ALL ALL and LIT", "LIT not LIT", "E PART",
                "E E + PART", "E E - PART", "PART UNIT", "PART PART * UNIT", "PART PART / UNIT",
                "UNIT INT", "UNIT ( E )"));
        for (String sort : List.of("mend", "bar", "leave", "court")) {
            all.add("RULE " + sort + " NAME if COND ;");
        }
        for (String compare : List.of("==", "!=", "<", "<=")) {
            all.add("LIT E " + compare + " E");
        }
        for (String var : VARS) {
            all.add("UNIT " + var);
        }
        return all.stream().map(line -> line.split(" ")).toArray(String[][]::new);
    }

    private record Item(int production, int dot, int origin) {
    }

    private static String symbol(Item item) {
        String[] production = GRAMMAR[item.production];
        return item.dot + 1 < production.length ? production[item.dot + 1] : null;
    }

    private static Item moved(Item item) {
        return new Item(item.production, item.dot + 1, item.origin);
    }

    /** How many tokens there are before the first with which no text goes on. */
    private static int recognised(List<Token> tokens) {
        List<LinkedHashSet<Item>> sets = new ArrayList<>();
        LinkedHashSet<Item> current = new LinkedHashSet<>(List.of(new Item(0, 0, 0)));
        for (int i = 0; ; i++) {
            sets.add(current);
            complete(sets, i);
            if (i == tokens.size()) {
                return i;
            }
            LinkedHashSet<Item> following = new LinkedHashSet<>();
            for (Item item : current) {
                if (tokens.get(i).kind.equals(symbol(item))) {
                    following.add(moved(item));
                }
            }
            if (following.isEmpty()) {
                return i;
            }
            current = following;
        }
    }

    private static void complete(List<LinkedHashSet<Item>> sets, int i) {
        LinkedHashSet<Item> set = sets.get(i);
        ArrayList<Item> agenda = new ArrayList<>(set);
        for (int a = 0; a < agenda.size(); a++) {
            Item item = agenda.get(a);
            List<Item> fresh = new ArrayList<>();
            String symbol = symbol(item);
            if (symbol == null) {
                for (Item waiting : new ArrayList<>(sets.get(item.origin))) {
                    if (GRAMMAR[item.production][0].equals(symbol(waiting))) {
                        fresh.add(moved(waiting));
                    }
                }
            } else {
                for (int p = 0; p < GRAMMAR.length; p++) {
                    if (GRAMMAR[p][0].equals(symbol)) {
                        fresh.add(new Item(p, 0, i));
                    }
                }
                if (symbol.equals("RULES")) {
                    fresh.add(moved(item));
                }
            }
            for (Item one : fresh) {
                if (set.add(one)) {
                    agenda.add(one);
                }
            }
        }
    }

    private static void addRoomFaults(List<Token> tokens, TreeMap<Integer, Integer> faults) {
        int seen = 0;
        int rules = 0;
        int depth = 0;
        for (Token token : tokens) {
            if (token.kind.equals("$")) {
                return;
            }
            boolean begins = SORTS.contains(token.kind) || token.kind.equals("strike");
            rules += begins ? 1 : 0;
            depth += token.kind.equals("(") ? 1 : token.kind.equals(")") ? -1 : 0;
            seen++;
            if (seen > 400 || begins && rules > 24 || token.kind.equals("(") && depth > 6) {
                faults.merge(token.at, 2, Math::min);
            }
        }
    }

    /** Makes trees of a text that has no fault. */
    private static final class Builder {
        private final List<Token> tokens;
        private final int text;
        private int next = 0;

        Builder(List<Token> tokens, int text) {
            this.tokens = tokens;
            this.text = text;
        }

        Text text() {
            int day = 0;
            if (is("from")) {
                day = Integer.parseInt(tokens.get(1).text);
                next = 3;
            }
            List<Rule> rules = new ArrayList<>();
            while (!is("$")) {
                String sort = go();
                String name = go();
                Tree value = null;
                Tree condition = null;
                if (is("to")) {
                    go();
                    value = sum();
                }
                if (is("if")) {
                    go();
                    condition = condition();
                }
                go();
                rules.add(new Rule(sort, name, value, condition, text, rules.size()));
            }
            return new Text(day, rules);
        }

        private boolean is(String... kinds) {
            return List.of(kinds).contains(tokens.get(next).kind);
        }

        private String go() {
            return tokens.get(next++).text;
        }

        private Tree condition() {
            Tree tree = all();
            while (is("or")) {
                tree = new Tree(go(), 0, tree, all());
            }
            return tree;
        }

        private Tree all() {
            Tree tree = literal();
            while (is("and")) {
                tree = new Tree(go(), 0, tree, literal());
            }
            return tree;
        }

        private Tree literal() {
            if (is("not")) {
                return new Tree(go(), 0, literal(), null);
            }
            Tree left = sum();
            return new Tree(go(), 0, left, sum());
        }

        private Tree sum() {
            Tree tree = product();
            while (is("+", "-")) {
                tree = new Tree(go(), 0, tree, product());
            }
            return tree;
        }

        private Tree product() {
            Tree tree = unit();
            while (is("*", "/")) {
                tree = new Tree(go(), 0, tree, unit());
            }
            return tree;
        }

        private Tree unit() {
            if (is("(")) {
                go();
                Tree tree = sum();
                go();
                return tree;
            }
            boolean number = is("INT");
            String word = go();
            return new Tree(number ? "INT" : word, number ? Integer.parseInt(word) : 0, null, null);
        }
    }

    private static int value(Tree tree, Map<String, Integer> vars) {
        if (tree.op.equals("INT")) {
            return tree.number;
        }
        if (tree.left == null) {
            return vars.get(tree.op);
        }
        long left = value(tree.left, vars);
        long right = value(tree.right, vars);
        switch (tree.op) {
            case "+":
                return (int) (left + right);
            case "-":
                return (int) (left - right);
            case "*":
                return (int) (left * right);
            default:
                if (right == 0) {
                    throw new ByZero();
                }
                return (int) (left / right);
        }
    }

    private static boolean holds(Tree tree, Map<String, Integer> vars) {
        if (tree == null) {
            return true;
        }
        switch (tree.op) {
            case "or":
                return holds(tree.left, vars) | holds(tree.right, vars);
            case "and":
                return holds(tree.left, vars) & holds(tree.right, vars);
            case "not":
                return !holds(tree.left, vars);
            default:
                try {
                    int order = Integer.compare(value(tree.left, vars), value(tree.right, vars));
                    return Map.of("==", order == 0, "!=", order != 0, "<", order < 0, "<=",
                            order <= 0).get(tree.op);
                } catch (ByZero byZero) {
                    return false;
                }
        }
    }

    private List<Rule> inForce(int day) {
        List<Text> by = new ArrayList<>(texts.stream().filter(t -> t.day <= day).toList());
        by.sort(Comparator.comparingInt(Text::day));
        List<Rule> list = new ArrayList<>();
        for (Text text : by) {
            for (Rule rule : text.rules) {
                int at = list.stream().map(Rule::name).toList().indexOf(rule.name);
                if (rule.sort.equals("strike")) {
                    if (at >= 0) {
                        list.remove(at);
                    }
                } else if (at >= 0) {
                    list.set(at, rule);
                } else {
                    list.add(rule);
                }
            }
        }
        return list;
    }

    private int firstHolding(String sort, int day, Map<String, Integer> vars) {
        List<Rule> list = inForce(day);
        for (int k = 0; k < list.size(); k++) {
            if (list.get(k).sort.equals(sort) && holds(list.get(k).condition, vars)) {
                return k;
            }
        }
        return -2;
    }

    int rules(int day) {
        return in(day, 0, 99) ? inForce(day).size() : -1;
    }

    int rule(int day, int k, int what) {
        if (!in(day, 0, 99) || !in(what, 0, 2) || !in(k, 0, inForce(day).size() - 1)) {
            return -1;
        }
        Rule rule = inForce(day).get(k);
        return new int[] {SORTS.indexOf(rule.sort), rule.text, rule.number}[what];
    }

    // ---- the facts

    private static boolean in(int x, int least, int most) {
        return least <= x && x <= most;
    }

    private int add(boolean allowed, Fact fact) {
        if (!allowed || facts.size() == 180) {
            return -1;
        }
        facts.add(fact);
        return facts.size() - 1;
    }

    int line(int day, int minute, int sort, int seat, int word) {
        boolean fits = sort == 3 ? word == 0 : (sort == 0 || sort == 2) && in(word, 1, 999);
        return add(fits && in(day, 0, 99) && in(minute, 0, 239) && in(seat, 0, 9),
                new Fact("line", 0, day, minute, sort, seat, word, 0, 0, 0, 0, 0));
    }

    int reads(int day, int minute, int seat, int word, int paper, int place) {
        return add(in(day, 0, 99) && in(minute, 0, 239) && in(seat, 0, 9) && in(word, 1, 999)
                && in(paper, 0, 3) && in(place, 0, 9),
                new Fact("line", 0, day, minute, 1, seat, word, paper, place, 0, 0, 0));
    }

    int sits(int member, int seat, int day) {
        return add(in(member, 0, 7) && in(seat, 0, 9) && in(day, 0, 99),
                new Fact("sits", 0, day, 0, 0, seat, 0, 0, 0, member, 0, 0));
    }

    int office(int member, int v) {
        return add(in(member, 0, 7) && in(v, 0, 9),
                new Fact("office", 0, 0, 0, 0, 0, 0, 0, 0, member, v, 0));
    }

    int paper(int paper, int place, int word) {
        return add(in(paper, 0, 3) && in(place, 0, 9) && in(word, 0, 999),
                new Fact("paper", 0, 0, 0, 0, 0, word, paper, place, 0, 0, 0));
    }

    int fact(int kind, int line, int word, int day) {
        if (!in(kind, 0, 3) || !isA("line", line, facts.size())) {
            return -1;
        }
        boolean allowed = (kind > 1 || in(word, 1, 999)) && (kind == 1 || in(day, 0, 99))
                && (kind != 3 || day >= facts.get(line).day);
        return add(allowed, new Fact(List.of("mend", "doubt", "struck", "court").get(kind), line,
                day, 0, 0, 0, word, 0, 0, 0, 0, 0));
    }

    int rename(int one, int other, int day) {
        return add(in(one, 1, 999) && in(other, 1, 999) && one != other && in(day, 0, 99),
                new Fact("rename", 0, day, 0, 0, 0, one, 0, 0, 0, 0, other));
    }

    int vote(int division, int member, int side, int teller) {
        return add(in(division, 0, 3) && in(member, 0, 7) && in(side, 0, 1) && in(teller, 0, 1),
                new Fact("vote", division, 0, 0, 0, 0, 0, 0, 0, member, side, teller));
    }

    private boolean isA(String kind, int fact, int n) {
        return in(fact, 0, n - 1) && facts.get(fact).kind.equals(kind);
    }

    /** For the test alone: the facts of a kind, by numbers. */
    List<Integer> ofKind(String kind) {
        List<Integer> all = new ArrayList<>();
        for (int f = 0; f < facts.size(); f++) {
            if (isA(kind, f, facts.size())) {
                all.add(f);
            }
        }
        return all;
    }

    /** For the test alone: a fact's day, 0 if there is no such fact. */
    int dayOf(int fact) {
        return in(fact, 0, facts.size() - 1) ? facts.get(fact).day : 0;
    }

    private boolean badN(int n) {
        return !in(n, 0, facts.size());
    }

    private List<Fact> known(String kind, int n) {
        return facts.subList(0, n).stream().filter(f -> f.kind.equals(kind)).toList();
    }

    private static Fact latest(List<Fact> sits) {
        Fact latest = null;
        for (Fact fact : sits) {
            if (latest == null || fact.day >= latest.day) {
                latest = fact;
            }
        }
        return latest;
    }

    int who(int seat, int day, int n) {
        if (!in(seat, 0, 9) || !in(day, 0, 99) || badN(n)) {
            return -1;
        }
        List<Fact> sits = known("sits", n).stream().filter(f -> f.day <= day).toList();
        Fact here = latest(sits.stream().filter(f -> f.seat == seat).toList());
        if (here == null) {
            return -2;
        }
        Fact own = latest(sits.stream().filter(f -> f.member == here.member).toList());
        return own.seat == seat ? here.member : -2;
    }

    // ---- a line as printed

    private boolean struck(int line, int day, int n) {
        return known("struck", n).stream().anyMatch(f -> f.line == line && f.day <= day);
    }

    private Map<String, Integer> vars(int line, int n) {
        Fact l = facts.get(line);
        Map<String, Integer> vars = new HashMap<>();
        int who = who(l.seat, l.day, n);
        vars.put("word", l.word);
        vars.put("was", l.word);
        vars.put("paper", 0);
        for (Fact f : known("paper", n)) {
            if (l.sort == 1 && f.paper == l.paper && f.place == l.place) {
                vars.put("paper", f.word);
            }
        }
        vars.put("sort", l.sort);
        vars.put("minute", l.minute);
        vars.put("member", who < 0 ? 0 : who + 1);
        vars.put("office", 0);
        for (Fact f : known("office", n)) {
            if (f.member == who) {
                vars.put("office", f.value);
            }
        }
        vars.put("days", 0);
        vars.put("times", 0);
        vars.put("heard", 0);
        for (Fact f : known("doubt", n)) {
            if (f.line == line) {
                vars.put("heard", f.word);
            }
        }
        vars.put("next", 0);
        vars.put("lines", (int) known("line", n).stream()
                .filter(f -> f.day == l.day && f.seat == l.seat).count());
        return vars;
    }

    /** The line behind step (3), of the mends before one; -1 in stop: all of them. */
    private Printed mends(int line, int d, int n, int stop) {
        Fact l = facts.get(line);
        Map<String, Integer> vars = vars(line, n);
        int rightBy = firstHolding("right", l.day, vars);
        if (rightBy >= 0) {
            int value;
            try {
                value = value(inForce(l.day).get(rightBy).value, vars);
            } catch (ByZero byZero) {
                value = 0;
            }
            vars.put("word", value < 0 ? 0 : value > 999 ? 999 : value);
        }
        for (int f = 0; f < n && f != stop; f++) {
            if (isA("mend", f, n) && facts.get(f).line == line && facts.get(f).day <= d
                    && fate(f, n, vars)[0] == 0) {
                vars.put("word", facts.get(f).word);
                vars.put("times", vars.get("times") + 1);
            }
        }
        int who = who(l.seat, l.day, n);
        return new Printed(vars.get("word"), struck(line, d, n), -2, rightBy, vars.get("times"),
                who, vars);
    }

    /** What becomes of a mend, and by which bar rule. */
    private int[] fate(int mend, int n, Map<String, Integer> soFar) {
        Fact m = facts.get(mend);
        Fact l = facts.get(m.line);
        if (m.day < l.day) {
            return new int[] {1, -1};
        }
        if (struck(m.line, m.day, n)) {
            return new int[] {2, -1};
        }
        Map<String, Integer> vars = new HashMap<>(soFar);
        vars.put("days", m.day - l.day);
        vars.put("next", m.word);
        if (firstHolding("mend", m.day, vars) < 0) {
            return new int[] {3, -1};
        }
        int bar = firstHolding("bar", m.day, vars);
        return bar < 0 ? new int[] {0, -1} : new int[] {4, bar};
    }

    private Printed print(int line, int d, int n) {
        Printed p = mends(line, d, n, -1);
        Map<String, Integer> vars = new HashMap<>(p.vars);
        vars.put("days", d - facts.get(line).day);
        return new Printed(p.word, p.struck, firstHolding("leave", d, vars), p.rightBy, p.lets,
                p.who, vars);
    }

    int printed(int line, int day, int n, int what) {
        if (badN(n) || !isA("line", line, n) || !in(day, facts.get(line).day, 99)
                || !in(what, 0, 5)) {
            return -1;
        }
        Printed p = print(line, day, n);
        return new int[] {p.word, p.struck ? 1 : 0, p.leftBy, p.rightBy, p.lets, p.who}[what];
    }

    int mended(int fact, int n) {
        if (badN(n) || !isA("mend", fact, n)) {
            return -1;
        }
        return fate(fact, n, mends(facts.get(fact).line, facts.get(fact).day, n, fact).vars)[0];
    }

    int bar(int fact, int n) {
        if (badN(n) || !isA("mend", fact, n)) {
            return -1;
        }
        return fate(fact, n, mends(facts.get(fact).line, facts.get(fact).day, n, fact).vars)[1];
    }

    private List<Integer> print(int d, int n, java.util.function.IntPredicate day) {
        List<Integer> list = new ArrayList<>();
        for (int f = 0; f < n; f++) {
            if (isA("line", f, n) && day.test(facts.get(f).day) && print(f, d, n).leftBy == -2) {
                list.add(f);
            }
        }
        list.sort(Comparator.<Integer>comparingInt(f -> facts.get(f).day)
                .thenComparingInt(f -> facts.get(f).minute).thenComparingInt(f -> f));
        return list;
    }

    private static int nth(List<Integer> list, int k) {
        return in(k, 0, list.size() - 1) ? list.get(k) : -1;
    }

    int lines(int day, int d, int n) {
        return !in(day, 0, 99) || !in(d, day, 99) || badN(n) ? -1
                : print(d, n, x -> x == day).size();
    }

    int at(int day, int d, int n, int k) {
        return !in(day, 0, 99) || !in(d, day, 99) || badN(n) ? -1
                : nth(print(d, n, x -> x == day), k);
    }

    int court(int fact, int n, int what) {
        if (badN(n) || !isA("court", fact, n) || !in(what, 0, 2)) {
            return -1;
        }
        Fact c = facts.get(fact);
        Printed p = print(c.line, c.day, what == 2 ? n : fact);
        return what == 1 ? firstHolding("court", c.day, p.vars) : p.struck ? 0 : p.word;
    }

    // ---- takes

    int take(int w, int word) {
        if (!in(w, 0, 2) || !in(word, w == 2 ? 0 : 1, 999) || rows.get(w).size() == 12) {
            return -1;
        }
        rows.get(w).add(word);
        return rows.get(w).size();
    }

    void clear() {
        rows.forEach(List::clear);
    }

    int join() {
        List<Integer> first = rows.get(0);
        List<Integer> second = rows.get(1);
        int best = 0;
        for (int k = 1; k <= first.size() && k <= second.size(); k++) {
            int differ = 0;
            for (int i = 0; i < k; i++) {
                if (!first.get(first.size() - k + i).equals(second.get(i))) {
                    differ++;
                }
            }
            best = differ <= k / 3 ? k : best;
        }
        return best;
    }

    int joined(int i) {
        List<Integer> first = rows.get(0);
        List<Integer> second = rows.get(1);
        int k = join();
        List<Integer> whole = new ArrayList<>(first);
        for (int j = 0; j < k; j++) {
            int at = first.size() - k + j;
            long ofFirst = rows.get(2).stream().filter(first.get(at)::equals).count();
            long ofSecond = rows.get(2).stream().filter(second.get(j)::equals).count();
            if (ofSecond > ofFirst) {
                whole.set(at, second.get(j));
            }
        }
        whole.addAll(second.subList(k, second.size()));
        return nth(whole, i);
    }

    int apart(int w, int x) {
        return in(w, 0, 2) && in(x, 0, 2) ? apart(rows.get(w), rows.get(x), new HashMap<>()) : -1;
    }

    private static int apart(List<Integer> a, List<Integer> b, Map<List<Integer>, Integer> done) {
        if (a.isEmpty() || b.isEmpty()) {
            return a.size() + b.size();
        }
        List<Integer> key = List.of(a.size(), b.size());
        Integer known = done.get(key);
        if (known != null) {
            return known;
        }
        List<Integer> restA = a.subList(1, a.size());
        List<Integer> restB = b.subList(1, b.size());
        int change = apart(restA, restB, done) + (a.get(0).equals(b.get(0)) ? 0 : 1);
        int result = Math.min(change, 1 + Math.min(apart(restA, b, done), apart(a, restB, done)));
        done.put(key, result);
        return result;
    }

    // ---- divisions

    private Set<Integer> on(int division, int side, int n) {
        Set<Integer> members = new HashSet<>();
        for (Fact f : known("vote", n)) {
            if (f.line == division && f.value == side) {
                members.add(f.member);
            }
        }
        return members;
    }

    int sum(int division, int side, int n) {
        if (!in(division, 0, 3) || !in(side, 0, 1) || badN(n)) {
            return -1;
        }
        Set<Integer> members = on(division, side, n);
        members.removeAll(on(division, 1 - side, n));
        return members.size();
    }

    int doubles(int division, int n) {
        if (!in(division, 0, 3) || badN(n)) {
            return -1;
        }
        Set<Integer> members = on(division, 0, n);
        members.retainAll(on(division, 1, n));
        return members.stream().mapToInt(m -> 1 << m).sum();
    }

    int moved(int division, int n) {
        if (!in(division, 0, 3) || badN(n)) {
            return -1;
        }
        for (int f = n - 1; f >= 0; f--) {
            boolean before = sum(division, 0, f) > sum(division, 1, f);
            boolean behind = sum(division, 0, f + 1) > sum(division, 1, f + 1);
            if (before != behind) {
                return f;
            }
        }
        return -2;
    }

    // ---- reporters

    boolean reporter(int k, int speed, int cant) {
        if (!in(k, 0, 3) || !in(speed, 1, 6) || !in(cant, 0, 255)) {
            return false;
        }
        speeds[k] = speed;
        cants[k] = cant;
        return true;
    }

    int roster(int t, int m) {
        if (!in(t, 1, 8) || !in(m, 1, 4)) {
            return -100;
        }
        remembered = List.of();
        int leastEnd = Integer.MAX_VALUE;
        int longest = 0;
        int all = (int) Math.round(Math.pow(m, t));
        for (int code = 0; code < all; code++) {
            Integer[] takers = new Integer[t];
            int rest = code;
            for (int k = t - 1; k >= 0; k--) {
                takers[k] = rest % m;
                rest /= m;
            }
            int good = goodTurns(takers);
            longest = Math.max(longest, good);
            if (good == t) {
                int end = 0;
                for (int k = 0; k < t; k++) {
                    end = Math.max(end, k + speeds[takers[k]]);
                }
                if (end < leastEnd) {
                    leastEnd = end;
                    remembered = Arrays.asList(takers);
                }
            }
        }
        return remembered.isEmpty() ? -1 - longest : leastEnd;
    }

    private int goodTurns(Integer[] takers) {
        for (int k = 0; k < takers.length; k++) {
            int who = takers[k];
            if ((cants[who] & 1 << k) != 0) {
                return k;
            }
            for (int before = 0; before < k; before++) {
                if (takers[before] == who && k <= before + speeds[who]) {
                    return k;
                }
            }
        }
        return takers.length;
    }

    int turn(int k) {
        return nth(remembered, k);
    }

    // ---- the index

    private Set<Integer> sameAs(int word, int day, int n) {
        Set<Integer> all = new HashSet<>(Set.of(word));
        int size;
        do {
            size = all.size();
            for (Fact f : known("rename", n)) {
                if (f.day <= day && (all.contains(f.word) || all.contains(f.other))) {
                    all.add(f.word);
                    all.add(f.other);
                }
            }
        } while (all.size() > size);
        return all;
    }

    private List<Integer> naming(int word, int day, int n) {
        Set<Integer> all = sameAs(word, day, n);
        return print(day, n, x -> x <= day).stream().filter(f -> {
            Printed p = print(f, day, n);
            return !p.struck && all.contains(p.word);
        }).toList();
    }

    int names(int word, int day, int n) {
        return !in(word, 1, 999) || !in(day, 0, 99) || badN(n) ? -1 : naming(word, day, n).size();
    }

    int found(int word, int day, int n, int i) {
        return !in(word, 1, 999) || !in(day, 0, 99) || badN(n) ? -1 : nth(naming(word, day, n), i);
    }

    int same(int one, int other, int day, int n) {
        if (!in(one, 1, 999) || !in(other, 1, 999) || !in(day, 0, 99) || badN(n)) {
            return -1;
        }
        return sameAs(one, day, n).contains(other) ? 1 : 0;
    }

    int count(int what) {
        return nth(List.of(facts.size(), texts.size(), tape.length(), rows.get(0).size(),
                rows.get(1).size(), rows.get(2).size()), what);
    }
}
