import java.util.List;
import java.util.Random;

/** Random runs of calls, of which each answer is held against the Model's. */
public final class ModelTest {
    private static final int RUNS = 1200;
    private static final int CALLS = 512;
    private static final int TEXTS = 6000;

    private final Random random;
    private final Check check;
    private SaidRecord x;
    private Model m;
    private int calls;
    private boolean gentle = true;

    private ModelTest(long seed, Check check) {
        this.random = new Random(seed);
        this.check = check;
        fresh();
    }

    private void fresh() {
        x = new SaidRecord();
        m = new Model();
        calls = 0;
    }

    public static void main(String[] args) {
        Check check = new Check();
        for (int run = 0; run < RUNS; run++) {
            check.part("run " + run);
            new ModelTest(run, check).run();
        }
        check.part("texts");
        new ModelTest(-1, check).texts();
        check.end();
    }

    private void due(String call, int got, int want) {
        calls++;
        check.due(call, got, want);
    }

    private void run() {
        for (int i = random.nextInt(4); i > 0; i--) {
            tellText();
        }
        while (calls < CALLS - 110 && m.count(0) < 179) {
            if (random.nextInt(30) == 0) {
                tellText();
            } else if (random.nextInt(5) < 2) {
                tell();
            } else {
                ask();
            }
        }
    }

    /** Many texts, whole and spoilt, each on a new object. */
    private void texts() {
        gentle = false;
        for (int i = 0; i < TEXTS; i++) {
            fresh();
            tellText();
        }
    }

    private void tellText() {
        String text = new RandomText(random, gentle && calls < CALLS / 4).text();
        StringBuilder padded = new StringBuilder(text);
        while (padded.length() % 20 != 0) {
            padded.append('?');
        }
        for (int i = 0; i < padded.length(); i += 20) {
            int a = Check.four(padded, i);
            int b = Check.four(padded, i + 4);
            int c = Check.four(padded, i + 8);
            int d = Check.four(padded, i + 12);
            int e = Check.four(padded, i + 16);
            due("feed", x.feed(a, b, c, d, e), m.feed(a, b, c, d, e));
        }
        int much = padded.length() - text.length();
        due("back(" + much + ")", x.back(much), m.back(much));
        due("read() of \"" + text + "\"", x.read(), m.read());
        due("place() of \"" + text + "\"", x.place(), m.place());
        due("count(1)", x.count(1), m.count(1));
        due("count(2)", x.count(2), m.count(2));
    }

    /** Mostly a number from 0 on below a bound; now and then one at or beyond its edges. */
    private int some(int bound, int limit) {
        if (random.nextInt(40) > 0) {
            return random.nextInt(bound);
        }
        int[] edges = {-1, 0, limit - 1, limit, Integer.MAX_VALUE, Integer.MIN_VALUE};
        return edges[random.nextInt(edges.length)];
    }

    private int day() {
        return some(7, 100);
    }

    private int word() {
        return random.nextInt(60) == 0 ? some(1000, 1000) : 1 + random.nextInt(6);
    }

    /** Mostly a fact of a kind, if there is one. */
    private int fact(String kind) {
        List<Integer> all = m.ofKind(kind);
        if (!all.isEmpty() && random.nextInt(12) > 0) {
            return all.get(random.nextInt(all.size()));
        }
        return random.nextInt(10) == 0 ? some(180, 180) : random.nextInt(m.count(0) + 1);
    }

    private int known() {
        int n = m.count(0);
        int choice = random.nextInt(30);
        return choice == 0 ? -1 : choice == 1 ? n + 1 : choice < 10 ? random.nextInt(n + 1) : n;
    }

    private void tell() {
        int a = day();
        int b = some(4, 240);
        int c = some(3, 10);
        int w = word();
        int p = some(2, 4);
        int q = some(2, 10);
        switch (random.nextInt(13)) {
            case 0:
            case 1:
            case 2:
                int sort = some(4, 4);
                int said = sort == 3 && random.nextInt(5) > 0 ? 0 : w;
                due("line(" + a + ", " + b + ", " + sort + ", " + c + ", " + said + ")",
                        x.line(a, b, sort, c, said), m.line(a, b, sort, c, said));
                break;
            case 3:
                due("reads(" + a + ", " + b + ", " + c + ", " + w + ", " + p + ", " + q + ")",
                        x.reads(a, b, c, w, p, q), m.reads(a, b, c, w, p, q));
                break;
            case 4:
                int member = some(3, 8);
                due("sits(" + member + ", " + c + ", " + a + ")", x.sits(member, c, a),
                        m.sits(member, c, a));
                break;
            case 5:
                int holder = some(3, 8);
                int v = some(4, 10);
                due("office(" + holder + ", " + v + ")", x.office(holder, v), m.office(holder, v));
                break;
            case 6:
                int printedWord = random.nextInt(4) == 0 ? 0 : w;
                due("paper(" + p + ", " + q + ", " + printedWord + ")", x.paper(p, q, printedWord),
                        m.paper(p, q, printedWord));
                break;
            case 7:
            case 8:
            case 9:
            case 10:
                int kind = random.nextInt(2) > 0 ? 0 : some(4, 4);
                int line = fact("line");
                a = random.nextInt(4) > 0 ? m.dayOf(line) + random.nextInt(4) : a;
                due("fact(" + kind + ", " + line + ", " + w + ", " + a + ")",
                        x.fact(kind, line, w, a), m.fact(kind, line, w, a));
                break;
            case 11:
                int other = word();
                due("rename(" + w + ", " + other + ", " + a + ")", x.rename(w, other, a),
                        m.rename(w, other, a));
                break;
            default:
                int voter = some(5, 8);
                int side = some(2, 2);
                int teller = some(2, 2);
                due("vote(" + p + ", " + voter + ", " + side + ", " + teller + ")",
                        x.vote(p, voter, side, teller), m.vote(p, voter, side, teller));
                break;
        }
    }

    private void ask() {
        int choice = random.nextInt(10);
        if (choice < 4) {
            askLines();
        } else if (choice < 6) {
            askMends();
        } else if (choice < 8) {
            askIndex();
        } else if (choice < 9) {
            askTakes();
        } else {
            askOthers();
        }
    }

    private void askLines() {
        int a = day();
        int d = random.nextInt(6) == 0 ? day() : Math.min(a, 90) + random.nextInt(4);
        int n = known();
        int k = random.nextInt(2) * some(6, 180);
        switch (random.nextInt(6)) {
            case 0:
                due("lines(" + a + ", " + d + ", " + n + ")", x.lines(a, d, n), m.lines(a, d, n));
                break;
            case 1:
                due("at(" + a + ", " + d + ", " + n + ", " + k + ")", x.at(a, d, n, k),
                        m.at(a, d, n, k));
                break;
            default:
                int line = fact("line");
                int what = some(6, 6);
                int on = random.nextInt(8) == 0 ? a : m.dayOf(line) + random.nextInt(6);
                due("printed(" + line + ", " + on + ", " + n + ", " + what + ")",
                        x.printed(line, on, n, what), m.printed(line, on, n, what));
                break;
        }
    }

    private void askMends() {
        int n = known();
        int f = fact("mend");
        switch (random.nextInt(3)) {
            case 0:
                due("mended(" + f + ", " + n + ")", x.mended(f, n), m.mended(f, n));
                break;
            case 1:
                due("bar(" + f + ", " + n + ")", x.bar(f, n), m.bar(f, n));
                break;
            default:
                int what = some(3, 3);
                f = fact("court");
                due("court(" + f + ", " + n + ", " + what + ")", x.court(f, n, what),
                        m.court(f, n, what));
                break;
        }
    }

    private void askIndex() {
        int w = word();
        int a = day();
        int n = known();
        int seat = some(3, 10);
        switch (random.nextInt(4)) {
            case 0:
                due("names(" + w + ", " + a + ", " + n + ")", x.names(w, a, n), m.names(w, a, n));
                break;
            case 1:
                int i = random.nextInt(2) * some(4, 180);
                due("found(" + w + ", " + a + ", " + n + ", " + i + ")", x.found(w, a, n, i),
                        m.found(w, a, n, i));
                break;
            case 2:
                int other = word();
                due("same(" + w + ", " + other + ", " + a + ", " + n + ")", x.same(w, other, a, n),
                        m.same(w, other, a, n));
                break;
            default:
                due("who(" + seat + ", " + a + ", " + n + ")", x.who(seat, a, n),
                        m.who(seat, a, n));
                break;
        }
    }

    private void askTakes() {
        for (int i = random.nextInt(10); i > 0; i--) {
            int w = some(3, 3);
            int word = random.nextInt(8) == 0 ? some(4, 1000) : 1 + random.nextInt(3);
            due("take(" + w + ", " + word + ")", x.take(w, word), m.take(w, word));
        }
        due("join()", x.join(), m.join());
        for (int i = -1; i < 8; i++) {
            int k = 3 * i + random.nextInt(3);
            due("joined(" + k + ")", x.joined(k), m.joined(k));
        }
        int v = some(3, 3);
        int w = some(3, 3);
        due("apart(" + v + ", " + w + ")", x.apart(v, w), m.apart(v, w));
        if (random.nextInt(2) == 0) {
            x.clear();
            m.clear();
            calls++;
        }
    }

    private void askOthers() {
        int d = some(2, 4);
        int n = known();
        int side = some(2, 2);
        int k = some(4, 4);
        int speed = 1 + some(3, 6);
        int cant = random.nextInt(3) > 0 ? 0 : some(256, 256);
        int what = some(6, 6);
        int a = day();
        switch (random.nextInt(7)) {
            case 0:
                due("sum(" + d + ", " + side + ", " + n + ")", x.sum(d, side, n),
                        m.sum(d, side, n));
                break;
            case 1:
                due("doubles(" + d + ", " + n + ")", x.doubles(d, n), m.doubles(d, n));
                break;
            case 2:
                due("moved(" + d + ", " + n + ")", x.moved(d, n), m.moved(d, n));
                break;
            case 3:
                due("reporter(" + k + ", " + speed + ", " + cant + ")",
                        x.reporter(k, speed, cant) ? 1 : 0, m.reporter(k, speed, cant) ? 1 : 0);
                askRoster();
                break;
            case 4:
                askRoster();
                break;
            case 5:
                due("count(" + what + ")", x.count(what), m.count(what));
                break;
            default:
                due("rules(" + a + ")", x.rules(a), m.rules(a));
                int r = some(5, 144);
                due("rule(" + a + ", " + r + ", " + what + ")", x.rule(a, r, what),
                        m.rule(a, r, what));
                break;
        }
    }

    private void askRoster() {
        int t = random.nextInt(12) == 0 ? some(9, 9) : 1 + random.nextInt(random.nextInt(8) + 1);
        int r = random.nextInt(12) == 0 ? some(5, 5) : 1 + random.nextInt(4);
        due("roster(" + t + ", " + r + ")", x.roster(t, r), m.roster(t, r));
        for (int k = -1; k <= 8; k++) {
            due("turn(" + k + ")", x.turn(k), m.turn(k));
        }
    }
}
