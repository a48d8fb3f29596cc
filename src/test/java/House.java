import java.util.ArrayList;
import java.util.List;

/**
 * A house in which something of each kind was told, and a long row of questions about it: two
 * houses that answer them alike were told the same. Building one and asking it all stays under the
 * 512 calls of an object, a full one too.
 */
final class House {
    /** The facts of a house, by their numbers. */
    static final int FACTS = 17;
    static final int SITS = 0;
    static final int LINE = 4;
    static final int READ_LINE = 5;
    static final int NOISE = 6;
    static final int STRUCK_LINE = 7;
    static final int MEND = 8;
    static final int BARRED_MEND = 9;
    static final int COURT = 12;
    static final int RENAME = 13;
    /** The bytes that wait on its tape, which make a text without a fault. */
    static final int TAPE = 20;

    private final SaidRecord x;
    private final List<String> answers = new ArrayList<>();

    private House(SaidRecord x) {
        this.x = x;
    }

    static SaidRecord told() {
        SaidRecord x = new SaidRecord();
        Check.read(x, "right r to paper if 0<paper;mend m if times<2;bar b if next==13;"
                + "leave l if sort==3;court c if heard!=0;");
        Check.read(x, "from 50;strike l;");
        x.sits(2, 5, 0);
        x.sits(3, 6, 10);
        x.office(2, 4);
        x.paper(1, 2, 500);
        x.line(10, 30, 0, 5, 100);
        x.reads(10, 20, 6, 505, 1, 2);
        x.line(10, 30, 3, 5, 0);
        x.line(12, 5, 2, 6, 700);
        x.fact(0, LINE, 200, 11);
        x.fact(0, LINE, 13, 12);
        x.fact(1, LINE, 77, 0);
        x.fact(2, STRUCK_LINE, 0, 14);
        x.fact(3, LINE, 0, 12);
        x.rename(500, 200, 11);
        x.vote(1, 0, 0, 0);
        x.vote(1, 1, 1, 0);
        x.vote(1, 1, 0, 1);
        takeAll(x, new int[] {5, 6, 7, 8}, new int[] {6, 7, 9, 10}, new int[] {9});
        x.reporter(1, 3, 0);
        x.reporter(2, 2, 1);
        x.roster(3, 3);
        Check.feed(x, "strike unknown      ");
        return x;
    }

    /** The same with lines up to the 180th fact. */
    static SaidRecord full() {
        SaidRecord x = told();
        for (int i = FACTS; i < 180; i++) {
            x.line(30 + i % 3, 239 - i, 0, i % 10, 1 + i);
        }
        return x;
    }

    /** The same with six texts. */
    static SaidRecord withSixTexts() {
        SaidRecord x = told();
        x.back(TAPE);
        for (int i = 2; i < 6; i++) {
            x.read();
        }
        Check.feed(x, "strike unknown      ");
        return x;
    }

    static void takeAll(SaidRecord x, int[] first, int[] second, int[] tape) {
        x.clear();
        for (int word : first) {
            x.take(0, word);
        }
        for (int word : second) {
            x.take(1, word);
        }
        for (int word : tape) {
            x.take(2, word);
        }
    }

    /** What a house answers from now on: each entry is a call with its answer. */
    static List<String> answers(SaidRecord x) {
        House house = new House(x);
        house.askStanding();
        house.askPrinted();
        house.askDivisions();
        house.tellMore();
        house.readTape();
        return house.answers;
    }

    private void note(String call, int answer) {
        answers.add(call + " = " + answer);
    }

    private void askStanding() {
        int n = x.count(0);
        for (int what = 0; what <= 5; what++) {
            note("count(" + what + ")", x.count(what));
        }
        note("place()", x.place());
        for (int k = 0; k < 8; k++) {
            note("turn(" + k + ")", x.turn(k));
        }
        note("join()", x.join());
        for (int i = 0; i < 6; i++) {
            note("joined(" + i + ")", x.joined(i));
        }
        note("apart(0, 2)", x.apart(0, 2));
        note("apart(1, 2)", x.apart(1, 2));
        for (int day : new int[] {0, 49, 50, 99}) {
            note("rules(" + day + ")", x.rules(day));
        }
        for (int k = 0; k < 6; k++) {
            note("rule(0, " + k + ", 0)", x.rule(0, k, 0));
            note("rule(99, " + k + ", 1)", x.rule(99, k, 1));
            note("rule(99, " + k + ", 2)", x.rule(99, k, 2));
        }
        for (int seat = 0; seat < 10; seat++) {
            note("who(" + seat + ", 10)", x.who(seat, 10, n));
            note("who(" + seat + ", 99)", x.who(seat, 99, n));
        }
    }

    private void askPrinted() {
        int n = x.count(0);
        for (int line = LINE; line <= STRUCK_LINE; line++) {
            for (int what = 0; what <= 5; what++) {
                note("printed(" + line + ", 14, " + what + ")", x.printed(line, 14, n, what));
            }
        }
        for (int mend = MEND; mend <= BARRED_MEND; mend++) {
            note("mended(" + mend + ")", x.mended(mend, n));
            note("bar(" + mend + ")", x.bar(mend, n));
        }
        for (int day : new int[] {0, 10, 12, 99}) {
            note("lines(" + day + ", " + day + ")", x.lines(day, day, n));
            note("lines(" + day + ", 99)", x.lines(day, 99, n));
        }
        for (int k = 0; k < 3; k++) {
            note("at(10, 10, " + k + ")", x.at(10, 10, n, k));
            note("court(" + COURT + ", " + k + ")", x.court(COURT, n, k));
            note("found(200, 14, " + k + ")", x.found(200, 14, n, k));
        }
        for (int word : new int[] {1, 100, 200, 500, 505, 700, 999}) {
            note("names(" + word + ", 13)", x.names(word, 13, n));
            note("same(" + word + ", 200, 99)", x.same(word, 200, 99, n));
        }
    }

    private void askDivisions() {
        int n = x.count(0);
        for (int division = 0; division < 4; division++) {
            note("sum(" + division + ", 0)", x.sum(division, 0, n));
            note("sum(" + division + ", 1)", x.sum(division, 1, n));
            note("doubles(" + division + ")", x.doubles(division, n));
            note("moved(" + division + ")", x.moved(division, n));
        }
    }

    private void tellMore() {
        note("line", x.line(20, 0, 0, 9, 1));
        note("reads", x.reads(20, 0, 9, 1, 0, 0));
        note("its word", x.printed(x.count(0) - 1, 20, x.count(0), 0));
        note("sits", x.sits(7, 9, 99));
        note("office", x.office(3, 9));
        note("paper", x.paper(1, 2, 0));
        note("mend", x.fact(0, LINE, 300, 13));
        note("its line", x.printed(LINE, 13, x.count(0), 0));
        note("rename", x.rename(1, 700, 0));
        note("vote", x.vote(3, 7, 1, 1));
        for (int w = 0; w < 3; w++) {
            note("take(" + w + ")", x.take(w, 3));
        }
        note("joined(5)", x.joined(5));
        for (int m = 1; m <= 4; m++) {
            for (int t : new int[] {1, 3, 8}) {
                note("roster(" + t + ", " + m + ")", x.roster(t, m));
                note("turn(" + (t - 1) + ")", x.turn(t - 1));
            }
        }
        for (int k = 0; k < 8; k++) {
            note("turn(" + k + ") of the last", x.turn(k));
        }
    }

    private void readTape() {
        note("feed", x.feed(Check.four(";lea", 0), Check.four("ve z", 0), Check.four(" if ", 0),
                Check.four("1<2;", 0), Check.four("    ", 0)));
        note("read()", x.read());
        note("place()", x.place());
        note("count(1)", x.count(1));
        note("count(2)", x.count(2));
        note("rules(99)", x.rules(99));
        note("rule(99, last, 1)", x.rule(99, x.rules(99) - 1, 1));
        note("read()", x.read());
    }
}
