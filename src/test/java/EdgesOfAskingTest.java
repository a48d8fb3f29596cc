/**
 * The boundary sentences of promises 14 to 37: the last value that is taken, the first that is not,
 * and, behind each refused call, that all is as if it had not been made. A test's name begins with
 * the promise's number. Promises 1 to 13 are in EdgesOfTellingTest.
 */
final class EdgesOfAskingTest {
    private static final int NONE = SaidRecord.NONE;
    private static final int N = House.FACTS;

    public static void main(String[] args) throws ReflectiveOperationException {
        Named.runAll(EdgesOfAskingTest.class, "promise");
    }

    private static void due(String call, long got, long want) {
        Named.due(call, got, want);
    }

    // ---- 14: rules

    static void promise14_days() {
        Named.bounds("day", 0, 5, 99, 4, SaidRecord::rules);
    }

    static void promise14_noneAndAll() {
        SaidRecord x = new SaidRecord();
        due("none", x.rules(99), 0);
        for (int text = 0; text < 6; text++) {
            StringBuilder many = new StringBuilder();
            for (int i = 0; i < 24; i++) {
                many.append("right ").append((char) ('a' + text)).append((char) ('a' + i));
                many.append(" to 1;");
            }
            due("a text of 24", Check.read(x, many.toString()), 0);
            due("rules(0)", x.rules(0), 24 * text + 24);
        }
        due("rules(99)", x.rules(99), 144);
        due("the last one's text", x.rule(99, 143, 1), 5);
        due("the last one's number", x.rule(99, 143, 2), 23);
        due("no more", x.rule(99, 144, 0), NONE);
    }

    // ---- 15: rule

    static void promise15_days() {
        Named.bounds("day", 0, 1, 99, 1, (x, v) -> x.rule(v, 1, 0));
    }

    static void promise15_notSoMany() {
        Named.bounds("k", 0, 0, 4, 4, (x, v) -> x.rule(0, v, 2));
        Named.bounds("k", 0, 0, 3, 4, (x, v) -> x.rule(50, v, 2));
        Named.bounds("k, its sort", 0, 0, 4, 4, (x, v) -> x.rule(0, v, 0));
        due("of none", new SaidRecord().rule(0, 0, 0), NONE);
    }

    static void promise15_whats() {
        Named.bounds("what", 0, 4, 2, 4, (x, v) -> x.rule(0, 4, v));
    }

    static void promise15_numbersCountStrikes() {
        SaidRecord x = Named.with("strike a;bar b if 1<2;strike c;strike b;bar b if 1<2;"
                + "strike d;leave e if 1<2;");
        due("rules(0)", x.rules(0), 2);
        due("b's number", x.rule(0, 0, 2), 4);
        due("e's number", x.rule(0, 1, 2), 6);
    }

    static void promise15_sorts() {
        SaidRecord x = Named.with("right a to 1;mend b if 1<2;bar c if 1<2;leave d if 1<2;"
                + "court e if 1<2;");
        for (int k = 0; k < 5; k++) {
            due("sort", x.rule(0, k, 0), k);
        }
    }

    // ---- 16: who

    static void promise16_seats() {
        Named.bounds("seat", 0, -2, 9, -2, (x, v) -> x.who(v, 10, N));
    }

    static void promise16_days() {
        Named.bounds("day", 0, 2, 99, 2, (x, v) -> x.who(5, v, N));
    }

    static void promise16_known() {
        Named.bounds("n", 0, -2, N, 2, (x, v) -> x.who(5, 10, v));
        SaidRecord full = House.full();
        due("n 180", full.who(5, 10, 180), 2);
        due("n 181", full.who(5, 10, 181), NONE);
    }

    static void promise16_nobody() {
        SaidRecord x = new SaidRecord();
        x.sits(0, 4, 7);
        due("on 6", x.who(4, 6, 1), -2);
        due("on 7", x.who(4, 7, 1), 0);
        due("known by none", x.who(4, 7, 0), -2);
        due("in the next seat", x.who(5, 7, 1), -2);
    }

    // ---- 17: printed

    static void promise17_lines() {
        Named.bounds("line", House.LINE, 200, House.STRUCK_LINE, 700,
                (x, v) -> x.printed(v, 14, N, 0));
        for (int no : new int[] {-1, 0, House.COURT, N - 1, N, 180}) {
            Named.refused("line " + no, House::told, x -> x.printed(no, 14, N, 0), NONE);
        }
    }

    static void promise17_amongTheFirstN() {
        Named.bounds("n", House.LINE + 1, 100, N, 200, (x, v) -> x.printed(House.LINE, 14, v, 0));
        Named.bounds("n", House.STRUCK_LINE + 1, 0, N, 1,
                (x, v) -> x.printed(House.STRUCK_LINE, 14, v, 1));
    }

    static void promise17_dayNotAheadOfItsOwn() {
        Named.bounds("day", 10, 100, 99, 200, (x, v) -> x.printed(House.LINE, v, N, 0));
        Named.bounds("day", 12, 700, 99, 700, (x, v) -> x.printed(House.STRUCK_LINE, v, N, 0));
        due("-1", House.told().printed(House.LINE, -1, N, 0), NONE);
        SaidRecord y = new SaidRecord();
        y.line(0, 0, 0, 0, 5);
        y.line(99, 0, 0, 0, 6);
        due("of day 0 on -1", y.printed(0, -1, 2, 0), NONE);
        due("of day 0 on 0", y.printed(0, 0, 2, 0), 5);
        due("of day 99 on 98", y.printed(1, 98, 2, 0), NONE);
        due("of day 99 on 99", y.printed(1, 99, 2, 0), 6);
        due("of day 99 on 100", y.printed(1, 100, 2, 0), NONE);
    }

    static void promise17_whats() {
        Named.bounds("what", 0, 200, 5, 2, (x, v) -> x.printed(House.LINE, 14, N, v));
        int[] want = {200, 0, -2, -2, 1, 2};
        for (int what = 0; what <= 5; what++) {
            due("what " + what, House.told().printed(House.LINE, 14, N, what), want[what]);
        }
    }

    static void promise17_wordBeneath() {
        SaidRecord x = House.told();
        due("struck", x.printed(House.STRUCK_LINE, 14, N, 1), 1);
        due("its word", x.printed(House.STRUCK_LINE, 14, N, 0), 700);
        SaidRecord y = Named.with("leave l if 1<2;");
        y.line(0, 0, 0, 0, 999);
        due("left out", y.printed(0, 0, 1, 2), 0);
        due("its word", y.printed(0, 0, 1, 0), 999);
    }

    static void promise17_noneLeavesOrPutsRight() {
        SaidRecord x = House.told();
        due("not left out", x.printed(House.LINE, 10, N, 2), -2);
        due("not put right", x.printed(House.LINE, 10, N, 3), -2);
        due("put right", x.printed(House.READ_LINE, 10, N, 3), 0);
        due("noise left out on 49", x.printed(House.NOISE, 49, N, 2), 3);
        due("not on 50", x.printed(House.NOISE, 50, N, 2), -2);
    }

    static void promise17_nobody() {
        SaidRecord x = new SaidRecord();
        x.line(5, 0, 0, 3, 1);
        x.sits(0, 3, 6);
        due("who comes later", x.printed(0, 99, 2, 5), -2);
        x.sits(1, 3, 5);
        due("not known", x.printed(0, 99, 2, 5), -2);
        due("known", x.printed(0, 99, 3, 5), 1);
    }

    // ---- 18: mended

    /** Facts 8 and 9 are mends. */
    static void promise18_mendsAlone() {
        Named.bounds("fact", House.MEND, 0, House.BARRED_MEND, 4, (x, v) -> x.mended(v, N));
        for (int no : new int[] {-1, 0, House.LINE, House.COURT, N, 180}) {
            Named.refused("fact " + no, House::told, x -> x.mended(no, N), NONE);
        }
    }

    static void promise18_amongTheFirstN() {
        Named.bounds("n", House.MEND + 1, 0, N, 0, (x, v) -> x.mended(House.MEND, v));
        Named.bounds("n", House.BARRED_MEND + 1, 4, N, 4,
                (x, v) -> x.mended(House.BARRED_MEND, v));
    }

    /** A line of day 5, struck on 8, and a mend of a day to a word. */
    private static SaidRecord mendOn(int day, int word) {
        SaidRecord x = Named.with("mend m if next!=3;bar b if 4<=next;");
        x.line(5, 0, 0, 0, 1);
        x.fact(2, 0, 0, 8);
        due("mend", x.fact(0, 0, word, day), 2);
        return x;
    }

    static void promise18_eachFate() {
        due("ahead", mendOn(4, 2).mended(2, 3), 1);
        due("on the line's day", mendOn(5, 2).mended(2, 3), 0);
        due("before it was struck", mendOn(7, 2).mended(2, 3), 0);
        due("struck on that day", mendOn(8, 2).mended(2, 3), 2);
        due("struck before", mendOn(99, 2).mended(2, 3), 2);
        due("no mend rule", mendOn(7, 3).mended(2, 3), 3);
        due("a bar rule", mendOn(7, 4).mended(2, 3), 4);
    }

    static void promise18_theLeastThatIsSo() {
        SaidRecord x = Named.with("bar b if 1<2;");
        x.line(5, 0, 0, 0, 1);
        x.fact(2, 0, 0, 0);
        x.fact(0, 0, 2, 4);
        x.fact(0, 0, 2, 5);
        due("ahead, struck, no rule, barred", x.mended(2, 4), 1);
        due("struck, no rule, barred", x.mended(3, 4), 2);
        SaidRecord y = Named.with("bar b if 1<2;");
        y.line(5, 0, 0, 0, 1);
        y.fact(0, 0, 2, 5);
        due("no rule, barred", y.mended(1, 2), 3);
    }

    static void promise18_asOfItsOwnDay() {
        SaidRecord x = Named.with("mend m if times<1;");
        x.line(5, 0, 0, 0, 1);
        x.fact(0, 0, 2, 7);
        x.fact(0, 0, 3, 6);
        x.fact(0, 0, 4, 7);
        due("the first", x.mended(1, 4), 0);
        due("one of a later day is not there yet", x.mended(2, 4), 0);
        due("one of that day is", x.mended(3, 4), 3);
        due("printed on 7, the second was not let", x.printed(0, 7, 4, 4), 1);
        due("its word", x.printed(0, 7, 4, 0), 2);
    }

    // ---- 19: bar

    static void promise19_barredMendsAlone() {
        Named.bounds("fact", House.BARRED_MEND, 2, House.BARRED_MEND, 2, (x, v) -> x.bar(v, N));
        for (int no : new int[] {-1, 0, House.LINE, House.MEND, House.COURT, N, 180}) {
            Named.refused("fact " + no, House::told, x -> x.bar(no, N), NONE);
        }
    }

    static void promise19_amongTheFirstN() {
        Named.bounds("n", House.BARRED_MEND + 1, 2, N, 2, (x, v) -> x.bar(House.BARRED_MEND, v));
    }

    static void promise19_noneWhenItIsNot4() {
        due("let", mendOn(7, 2).bar(2, 3), NONE);
        due("ahead, though a bar rule holds", mendOn(4, 4).bar(2, 3), NONE);
        due("struck, though a bar rule holds", mendOn(8, 4).bar(2, 3), NONE);
        due("barred", mendOn(7, 4).bar(2, 3), 1);
        SaidRecord x = Named.with("mend m if 1==2;bar b if 1<2;");
        x.line(5, 0, 0, 0, 1);
        x.fact(0, 0, 2, 5);
        due("no mend rule, though a bar rule holds", x.bar(1, 2), NONE);
    }

    static void promise19_theFirstOfItsDay() {
        SaidRecord x = Named.with("bar a if next==7;mend m if 1<2;bar b if 1<2;bar c if 1<2;");
        due("from 9", Check.read(x, "from 9;strike a;"), 0);
        x.line(5, 0, 0, 0, 1);
        x.fact(0, 0, 7, 8);
        x.fact(0, 0, 8, 8);
        x.fact(0, 0, 7, 9);
        due("the first", x.bar(1, 4), 0);
        due("the first that holds", x.bar(2, 4), 2);
        due("by the rules of its day", x.bar(3, 4), 1);
    }

    // ---- 20: lines

    static void promise20_days() {
        Named.bounds("day", 0, 0, 99, 0, (x, v) -> x.lines(v, 99, N));
        SaidRecord x = new SaidRecord();
        x.line(0, 0, 0, 0, 1);
        x.line(99, 0, 0, 0, 1);
        due("day 0", x.lines(0, 0, 2), 1);
        due("day 99", x.lines(99, 99, 2), 1);
        due("day 100", x.lines(100, 100, 2), NONE);
        due("day -1", x.lines(-1, -1, 2), NONE);
        due("day -1", x.lines(-1, 0, 2), NONE);
    }

    static void promise20_dNotAhead() {
        Named.bounds("d", 10, 2, 99, 3, (x, v) -> x.lines(10, v, N));
        Named.bounds("d", 99, 0, 99, 0, (x, v) -> x.lines(99, v, N));
        Named.bounds("d", 0, 0, 99, 0, (x, v) -> x.lines(0, v, N));
    }

    static void promise20_known() {
        Named.bounds("n", 0, 0, N, 2, (x, v) -> x.lines(10, 10, v));
        int[] want = {0, 0, 0, 0, 0, 1, 2, 2};
        for (int n = 0; n < want.length; n++) {
            due("n " + n, House.told().lines(10, 10, n), want[n]);
        }
    }

    static void promise20_all180() {
        SaidRecord x = new SaidRecord();
        for (int i = 0; i < 180; i++) {
            x.line(7, i % 2, 0, 0, 1);
        }
        due("lines", x.lines(7, 7, 180), 180);
        due("the first", x.at(7, 7, 180, 0), 0);
        due("the 90th", x.at(7, 7, 180, 89), 178);
        due("the 91st", x.at(7, 7, 180, 90), 1);
        due("the last", x.at(7, 7, 180, 179), 179);
        due("no more", x.at(7, 7, 180, 180), NONE);
        due("n 181", x.lines(7, 7, 181), NONE);
    }

    // ---- 21: at

    static void promise21_notSoMany() {
        Named.bounds("k", 0, House.READ_LINE, 1, House.LINE, (x, v) -> x.at(10, 10, N, v));
        Named.bounds("k", 0, House.READ_LINE, 2, House.NOISE, (x, v) -> x.at(10, 50, N, v));
        due("of none", House.told().at(11, 11, N, 0), NONE);
    }

    static void promise21_days() {
        SaidRecord x = new SaidRecord();
        x.line(0, 0, 0, 0, 1);
        x.line(99, 0, 0, 0, 1);
        due("day 0", x.at(0, 0, 2, 0), 0);
        due("day 99", x.at(99, 99, 2, 0), 1);
        due("day 100", x.at(100, 100, 2, 0), NONE);
        due("day -1", x.at(-1, -1, 2, 0), NONE);
        due("day -1", x.at(-1, 0, 2, 0), NONE);
        Named.bounds("day", 10, House.READ_LINE, 10, House.READ_LINE,
                (y, v) -> y.at(v, 11, N, 0));
    }

    static void promise21_dNotAhead() {
        Named.bounds("d", 10, House.READ_LINE, 99, House.READ_LINE, (x, v) -> x.at(10, v, N, 0));
    }

    static void promise21_known() {
        Named.bounds("n", House.LINE + 1, House.LINE, N, House.READ_LINE,
                (x, v) -> x.at(10, 10, v, 0));
        due("n -1", House.told().at(10, 10, -1, 0), NONE);
    }

    // ---- 22: court

    static void promise22_courtsAlone() {
        Named.bounds("fact", House.COURT, 200, House.COURT, 200, (x, v) -> x.court(v, N, 0));
        for (int no : new int[] {-1, 0, House.LINE, House.MEND, N, 180}) {
            Named.refused("fact " + no, House::told, x -> x.court(no, N, 0), NONE);
        }
    }

    static void promise22_amongTheFirstN() {
        for (int what = 0; what <= 2; what++) {
            int w = what;
            int want = what == 1 ? 4 : 200;
            Named.bounds("n, what " + what, House.COURT + 1, want, N, want,
                    (x, v) -> x.court(House.COURT, v, w));
        }
    }

    static void promise22_whats() {
        Named.bounds("what", 0, 200, 2, 200, (x, v) -> x.court(House.COURT, N, v));
        due("what 1", House.told().court(House.COURT, N, 1), 4);
    }

    static void promise22_struckIs0() {
        SaidRecord x = new SaidRecord();
        x.line(5, 0, 0, 0, 9);
        x.fact(3, 0, 0, 6);
        x.fact(2, 0, 0, 6);
        x.fact(3, 0, 0, 5);
        x.fact(3, 0, 0, 6);
        due("before it was told", x.court(1, 5, 0), 9);
        due("as known now", x.court(1, 5, 2), 0);
        due("as known by 2", x.court(1, 2, 2), 9);
        due("as known by 3", x.court(1, 3, 2), 0);
        due("on the day ahead of it", x.court(3, 5, 0), 9);
        due("on that day", x.court(4, 5, 0), 0);
    }

    static void promise22_noneKeepsIt() {
        SaidRecord x = new SaidRecord();
        x.line(5, 0, 0, 0, 9);
        x.fact(3, 0, 0, 6);
        due("without rules", x.court(1, 2, 1), -2);
        due("read", Check.read(x, "from 6;court a if word==8;court b if word==9;"), 0);
        due("the one that holds", x.court(1, 2, 1), 1);
        due("read", Check.read(x, "from 7;court a if 1<2;"), 0);
        due("those of its day alone", x.court(1, 2, 1), 1);
    }

    // ---- 23: take

    static void promise23_rows() {
        Named.bounds("w", 0, 5, 2, 2, (x, v) -> x.take(v, 3));
    }

    static void promise23_words() {
        Named.bounds("word of FIRST", 1, 5, 999, 5, (x, v) -> x.take(0, v));
        Named.bounds("word of SECOND", 1, 5, 999, 5, (x, v) -> x.take(1, v));
    }

    static void promise23_0InTheTapeAlone() {
        Named.bounds("word of the TAPE", 0, 2, 999, 2, (x, v) -> x.take(2, v));
        due("FIRST", House.told().take(0, 0), NONE);
        due("SECOND", House.told().take(1, 0), NONE);
    }

    private static SaidRecord withRowOf(int w, int many) {
        SaidRecord x = House.told();
        for (int i = x.count(3 + w); i < many; i++) {
            x.take(w, 20 + i);
        }
        return x;
    }

    static void promise23_twelveAreThere() {
        for (int w = 0; w < 3; w++) {
            int row = w;
            due("the 12th of " + w, withRowOf(w, 11).take(w, 9), 12);
            Named.refused("the 13th of " + w, () -> withRowOf(row, 12), x -> x.take(row, 9), NONE);
            due("of another row", withRowOf(w, 12).take((w + 1) % 3, 9), w == 1 ? 2 : 5);
        }
    }

    // ---- 24: clear

    static void promise24_allBecomeEmpty() {
        SaidRecord x = withRowOf(0, 12);
        for (int w = 1; w < 3; w++) {
            for (int i = x.count(3 + w); i < 12; i++) {
                x.take(w, 30 + i);
            }
        }
        x.clear();
        for (int w = 0; w < 3; w++) {
            due("count", x.count(3 + w), 0);
            due("apart", x.apart(w, (w + 1) % 3), 0);
        }
        due("join()", x.join(), 0);
        due("joined(0)", x.joined(0), NONE);
        for (int w = 0; w < 3; w++) {
            for (int i = 1; i <= 12; i++) {
                due("take again", x.take(w, i), i);
            }
        }
        due("join()", x.join(), 12);
    }

    static void promise24_emptyRowsStay() {
        SaidRecord x = new SaidRecord();
        x.clear();
        x.clear();
        due("count(3)", x.count(3), 0);
        due("take", x.take(0, 1), 1);
    }

    static void promise24_onlyTheRows() {
        SaidRecord x = House.told();
        x.clear();
        due("count(0)", x.count(0), N);
        due("count(1)", x.count(1), 2);
        due("count(2)", x.count(2), House.TAPE);
        due("turn(1)", x.turn(1), 2);
    }

    // ---- 25, 26: join, joined

    static void promise25_emptyRows() {
        SaidRecord x = new SaidRecord();
        due("both", x.join(), 0);
        x.take(0, 1);
        due("SECOND", x.join(), 0);
        x.clear();
        x.take(1, 1);
        due("FIRST", x.join(), 0);
        x.take(0, 1);
        due("none", x.join(), 1);
    }

    static void promise25_changesNothing() {
        SaidRecord x = House.told();
        due("join()", x.join(), 3);
        due("join()", x.join(), 3);
        Named.alike("join()", x, House.told());
    }

    static void promise26_notSoMany() {
        Named.bounds("i", 0, 5, 4, 10, SaidRecord::joined);
        int[] want = {5, 6, 7, 9, 10};
        for (int i = 0; i < want.length; i++) {
            due("joined(" + i + ")", House.told().joined(i), want[i]);
        }
        SaidRecord x = new SaidRecord();
        due("of empty rows", x.joined(0), NONE);
        x.take(2, 1);
        due("the TAPE is not in it", x.joined(0), NONE);
    }

    static void promise26_upTo24() {
        SaidRecord x = new SaidRecord();
        for (int i = 0; i < 12; i++) {
            x.take(0, 1 + i);
            x.take(1, 101 + i);
        }
        due("join()", x.join(), 0);
        due("joined(0)", x.joined(0), 1);
        due("joined(11)", x.joined(11), 12);
        due("joined(12)", x.joined(12), 101);
        due("joined(23)", x.joined(23), 112);
        due("joined(24)", x.joined(24), NONE);
        due("joined(-1)", x.joined(-1), NONE);
    }

    // ---- 27: apart

    static void promise27_rows() {
        Named.bounds("w", 0, 3, 2, 3, (x, v) -> x.apart(v, 1));
        Named.bounds("x", 0, 3, 2, 3, (x, v) -> x.apart(1, v));
        Named.refused("both", House::told, x -> x.apart(3, 3), NONE);
        Named.refused("both", House::told, x -> x.apart(-1, -1), NONE);
    }

    // ---- 28 to 30: sum, doubles, moved

    static void promise28_divisions() {
        Named.bounds("division", 0, 0, 3, 0, (x, v) -> x.sum(v, 0, N));
        SaidRecord x = new SaidRecord();
        x.vote(0, 1, 0, 0);
        x.vote(3, 1, 0, 0);
        due("division 0", x.sum(0, 0, 2), 1);
        due("division 3", x.sum(3, 0, 2), 1);
        due("division 1", x.sum(1, 0, 2), 0);
    }

    static void promise28_sides() {
        Named.bounds("side", 0, 1, 1, 0, (x, v) -> x.sum(1, v, N));
    }

    static void promise28_known() {
        Named.bounds("n", 0, 0, N, 1, (x, v) -> x.sum(1, 0, v));
        int[] want = {0, 1, 1, 1};
        for (int n = 14; n <= N; n++) {
            due("ayes by " + n, House.told().sum(1, 0, n), want[n - 14]);
        }
        due("noes by 15", House.told().sum(1, 1, 15), 0);
        due("noes by 16", House.told().sum(1, 1, 16), 1);
        due("noes by 17", House.told().sum(1, 1, 17), 0);
    }

    static void promise28_allEight() {
        SaidRecord x = new SaidRecord();
        for (int member = 0; member < 8; member++) {
            x.vote(2, member, 1, member % 2);
        }
        due("noes", x.sum(2, 1, 8), 8);
        due("ayes", x.sum(2, 0, 8), 0);
    }

    static void promise29_divisions() {
        Named.bounds("division", 0, 0, 3, 0, (x, v) -> x.doubles(v, N));
    }

    static void promise29_known() {
        Named.bounds("n", 0, 0, N, 2, (x, v) -> x.doubles(1, v));
        due("by 16", House.told().doubles(1, 16), 0);
    }

    static void promise29_allEight() {
        SaidRecord x = new SaidRecord();
        for (int member = 0; member < 8; member++) {
            x.vote(0, member, 0, 0);
            x.vote(0, member, 1, 0);
            due("doubles", x.doubles(0, 2 * member + 2), (2 << member) - 1);
        }
        due("ayes", x.sum(0, 0, 16), 0);
    }

    static void promise30_divisions() {
        Named.bounds("division", 0, -2, 3, -2, (x, v) -> x.moved(v, N));
    }

    static void promise30_known() {
        Named.bounds("n", 0, -2, N, 16, (x, v) -> x.moved(1, v));
        due("by 14", House.told().moved(1, 14), -2);
        due("by 15", House.told().moved(1, 15), 14);
        due("by 16", House.told().moved(1, 16), 15);
    }

    static void promise30_never() {
        SaidRecord x = new SaidRecord();
        x.vote(0, 0, 1, 0);
        x.vote(0, 1, 0, 0);
        due("as many is not carried", x.moved(0, 2), -2);
        x.vote(0, 2, 0, 0);
        due("one more is", x.moved(0, 3), 2);
    }

    // ---- 31 to 33: reporter, roster, turn

    private static int report(SaidRecord x, int k, int speed, int cant) {
        return x.reporter(k, speed, cant) ? 1 : 0;
    }

    private static void reports(String value, int least, int most, Named.CallOf call) {
        due(value + " " + least, call.on(House.told(), least), 1);
        due(value + " " + most, call.on(House.told(), most), 1);
        for (int wrong : new int[] {least - 1, most + 1, Integer.MIN_VALUE, Integer.MAX_VALUE}) {
            Named.refused(value + " " + wrong, House::told, x -> call.on(x, wrong), 0);
        }
    }

    static void promise31_reporters() {
        reports("k", 0, 3, (x, v) -> report(x, v, 5, 1));
    }

    static void promise31_speeds() {
        reports("speed", 1, 6, (x, v) -> report(x, 0, v, 1));
    }

    static void promise31_cants() {
        reports("cant", 0, 255, (x, v) -> report(x, 0, 5, v));
    }

    static void promise31_lastValuesAreKept() {
        SaidRecord x = new SaidRecord();
        x.reporter(0, 6, 0);
        due("speed 6", x.roster(1, 1), 6);
        x.reporter(0, 1, 255);
        due("can't take any", x.roster(1, 1), -1);
        x.reporter(3, 1, 0);
        due("but reporter 3 can", x.roster(1, 4), 1);
        x.reporter(1, 1, 255);
        x.reporter(2, 1, 255);
        x.reporter(3, 6, 0);
        due("reporter 3 alone", x.roster(1, 4), 6);
        due("turn(0)", x.turn(0), 3);
        due("without it", x.roster(1, 3), -1);
    }

    static void promise31_theRememberedRosterStays() {
        SaidRecord x = House.told();
        x.reporter(0, 6, 255);
        x.reporter(2, 6, 255);
        due("turn(0)", x.turn(0), 0);
        due("turn(1)", x.turn(1), 2);
        due("turn(2)", x.turn(2), 0);
    }

    private static void rosters(String value, int least, int wantLeast, int most, int wantMost,
            Named.CallOf call) {
        due(value + " " + least, call.on(House.told(), least), wantLeast);
        due(value + " " + most, call.on(House.told(), most), wantMost);
        for (int wrong : new int[] {least - 1, most + 1, Integer.MIN_VALUE, Integer.MAX_VALUE}) {
            Named.refused(value + " " + wrong, House::told, x -> call.on(x, wrong), -100);
        }
    }

    /** Reporters 0 and 3 have speed 1: with both, all eight turns are taken in turns. */
    static void promise32_turns() {
        rosters("t", 1, 1, 8, 8, (x, v) -> x.roster(v, 4));
    }

    static void promise32_reporters() {
        rosters("m", 1, -2, 4, 2, (x, v) -> x.roster(2, v));
    }

    static void promise32_noneRemembersNothing() {
        SaidRecord x = House.told();
        due("remembered", x.turn(0), 0);
        due("roster(2, 1)", x.roster(2, 1), -2);
        for (int k = -1; k <= 8; k++) {
            due("turn(" + k + ")", x.turn(k), NONE);
        }
        due("roster(9, 1)", x.roster(9, 1), -100);
        due("turn(0)", x.turn(0), NONE);
        due("roster(1, 1)", x.roster(1, 1), 1);
        due("turn(0)", x.turn(0), 0);
    }

    static void promise32_howManyTurnsThereCanBe() {
        for (int can = 0; can < 8; can++) {
            SaidRecord x = new SaidRecord();
            for (int k = 0; k < 4; k++) {
                x.reporter(k, 1, 1 << can);
            }
            due("up to turn " + can, x.roster(8, 4), -1 - can);
            due("so many", can == 0 ? -1 : x.roster(can, 4), can == 0 ? -1 : can);
        }
    }

    static void promise32_minus100StaysRemembered() {
        SaidRecord x = House.told();
        for (int[] wrong : new int[][] {{0, 1}, {9, 1}, {1, 0}, {1, 5}, {-1, -1}, {9, 5}}) {
            due("roster", x.roster(wrong[0], wrong[1]), -100);
            due("turn(0)", x.turn(0), 0);
            due("turn(1)", x.turn(1), 2);
            due("turn(2)", x.turn(2), 0);
            due("turn(3)", x.turn(3), NONE);
        }
    }

    static void promise33_turns() {
        Named.bounds("k", 0, 0, 2, 0, SaidRecord::turn);
        SaidRecord x = new SaidRecord();
        x.roster(8, 2);
        due("turn(7)", x.turn(7), 1);
        due("turn(8)", x.turn(8), NONE);
        x.roster(1, 1);
        due("turn(0)", x.turn(0), 0);
        due("turn(1) of a shorter one", x.turn(1), NONE);
    }

    static void promise33_noneIsRemembered() {
        SaidRecord x = new SaidRecord();
        for (int k = -1; k <= 8; k++) {
            due("turn(" + k + ")", x.turn(k), NONE);
        }
        due("refused", x.roster(0, 0), -100);
        due("turn(0)", x.turn(0), NONE);
    }

    // ---- 34, 35: names, found

    private static SaidRecord withEdgeWords() {
        SaidRecord x = new SaidRecord();
        x.line(0, 0, 0, 0, 1);
        x.line(99, 239, 0, 9, 999);
        return x;
    }

    static void promise34_words() {
        Named.bounds("word", 1, 0, 999, 0, (x, v) -> x.names(v, 14, N));
        due("1", withEdgeWords().names(1, 99, 2), 1);
        due("999", withEdgeWords().names(999, 99, 2), 1);
        due("0", withEdgeWords().names(0, 99, 2), NONE);
        due("1000", withEdgeWords().names(1000, 99, 2), NONE);
    }

    static void promise34_days() {
        Named.bounds("day", 0, 0, 99, 2, (x, v) -> x.names(200, v, N));
        due("on 98", withEdgeWords().names(999, 98, 2), 0);
        due("on 0", withEdgeWords().names(1, 0, 2), 1);
    }

    static void promise34_known() {
        Named.bounds("n", 0, 0, N, 2, (x, v) -> x.names(200, 14, v));
    }

    static void promise35_notSoMany() {
        Named.bounds("i", 0, House.READ_LINE, 1, House.LINE, (x, v) -> x.found(200, 14, N, v));
        due("of none", House.told().found(1, 14, N, 0), NONE);
    }

    static void promise35_words() {
        due("1", withEdgeWords().found(1, 99, 2, 0), 0);
        due("999", withEdgeWords().found(999, 99, 2, 0), 1);
        due("0", withEdgeWords().found(0, 99, 2, 0), NONE);
        due("1000", withEdgeWords().found(1000, 99, 2, 0), NONE);
        for (int word : new int[] {0, 1000, Integer.MIN_VALUE, Integer.MAX_VALUE}) {
            Named.refused("word " + word, House::told, x -> x.found(word, 14, N, 0), NONE);
        }
    }

    static void promise35_days() {
        Named.bounds("day", 11, House.READ_LINE, 99, House.READ_LINE,
                (x, v) -> x.found(200, v, N, 0));
        due("day 0", withEdgeWords().found(1, 0, 2, 0), 0);
        due("day -1", withEdgeWords().found(1, -1, 2, 0), NONE);
        due("day 98", withEdgeWords().found(999, 98, 2, 0), NONE);
        due("day 100", withEdgeWords().found(999, 100, 2, 0), NONE);
    }

    static void promise35_known() {
        Named.bounds("n", House.MEND + 1, House.LINE, N, House.READ_LINE,
                (x, v) -> x.found(200, 14, v, 0));
        due("n -1", House.told().found(200, 14, -1, 0), NONE);
    }

    static void promise35_all180() {
        SaidRecord x = new SaidRecord();
        for (int i = 0; i < 180; i++) {
            x.line(99 - i / 2, 0, 0, 0, 7);
        }
        due("names", x.names(7, 99, 180), 180);
        due("the first", x.found(7, 99, 180, 0), 178);
        due("the second", x.found(7, 99, 180, 1), 179);
        due("the last", x.found(7, 99, 180, 179), 1);
        due("no more", x.found(7, 99, 180, 180), NONE);
        due("on the first day", x.names(7, 10, 180), 2);
        due("on the day ahead of it", x.names(7, 9, 180), 0);
    }

    // ---- 36: same

    static void promise36_words() {
        Named.bounds("one", 1, 0, 999, 0, (x, v) -> x.same(v, 200, 99, N));
        Named.bounds("other", 1, 0, 999, 0, (x, v) -> x.same(200, v, 99, N));
        Named.bounds("both", 1, 1, 999, 1, (x, v) -> x.same(v, v, 99, N));
    }

    static void promise36_days() {
        Named.bounds("day", 0, 0, 99, 1, (x, v) -> x.same(500, 200, v, N));
        due("on 10", House.told().same(500, 200, 10, N), 0);
        due("on 11", House.told().same(500, 200, 11, N), 1);
    }

    static void promise36_known() {
        Named.bounds("n", 0, 0, N, 1, (x, v) -> x.same(500, 200, 99, v));
        due("by 13", House.told().same(500, 200, 99, House.RENAME), 0);
        due("by 14", House.told().same(500, 200, 99, House.RENAME + 1), 1);
    }

    static void promise36_chainOf180() {
        SaidRecord x = new SaidRecord();
        for (int i = 0; i < 180; i++) {
            x.rename(999 - i, 998 - i, i % 2);
        }
        due("all", x.same(999, 819, 1, 180), 1);
        due("the other way", x.same(819, 999, 1, 180), 1);
        due("but the last", x.same(999, 819, 1, 179), 0);
        due("on the day before", x.same(999, 819, 0, 180), 0);
        due("two that day", x.same(999, 998, 0, 180), 1);
    }

    // ---- 37: count

    static void promise37_whats() {
        Named.bounds("what", 0, N, 5, 1, SaidRecord::count);
        int[] want = {N, 2, House.TAPE, 4, 4, 1};
        for (int what = 0; what <= 5; what++) {
            due("count(" + what + ")", House.told().count(what), want[what]);
        }
    }

    static void promise37_full() {
        due("facts", House.full().count(0), 180);
        due("texts", House.withSixTexts().count(1), 6);
        SaidRecord fed = new SaidRecord();
        Check.feed(fed, " ".repeat(2000));
        due("bytes", fed.count(2), 2000);
        for (int w = 0; w < 3; w++) {
            due("words", withRowOf(w, 12).count(3 + w), 12);
        }
    }

    // ---- all: questions change nothing, and the limit of 512 calls is no nearer than that

    static void promise37_questionsChangeNothing() {
        SaidRecord x = House.told();
        x.rules(0);
        x.rule(0, 4, 1);
        x.who(5, 10, N);
        x.names(200, 14, N);
        x.at(10, 50, N, 2);
        x.printed(House.LINE, 14, N, 0);
        x.mended(House.BARRED_MEND, N);
        x.bar(House.BARRED_MEND, N);
        x.court(House.COURT, N, 1);
        x.lines(12, 99, N);
        x.found(500, 99, N, 1);
        x.same(1, 2, 99, N);
        x.join();
        x.joined(3);
        x.apart(0, 1);
        x.sum(1, 0, N);
        x.doubles(1, N);
        x.moved(1, N);
        x.turn(1);
        x.place();
        x.count(0);
        Named.alike("questions", x, House.told());
    }

    static void promise37_the512thCall() {
        SaidRecord x = new SaidRecord();
        for (int i = 1; i <= 100; i++) {
            due("feed", x.feed(0x20202020, 0x20202020, 0x20202020, 0x20202020, 0x20202020), 20 * i);
        }
        due("read()", x.read(), 0);
        for (int i = 0; i < 180; i++) {
            due("line", x.line(5, i, 0, 0, 1 + i % 3), i);
        }
        for (int i = 0; i < 230; i++) {
            due("found", x.found(1, 5, 180, i), i < 60 ? 3 * i : NONE);
        }
        due("the 512th", x.names(3, 5, 180), 60);
    }
}
