/**
 * The boundary sentences of part I of the document's Terms:
 * facts, lines, and who sits where.
 */
final class Terms1Test {
    private static final int NONE = SaidRecord.NONE;

    public static void main(String[] args) throws ReflectiveOperationException {
        Named.runAll(Terms1Test.class, "terms1_");
    }

    private static void due(String call, long got, long want) {
        Named.due(call, got, want);
    }

    // ---- facts, and who sits where

    static void terms1_factsAreNumberedFrom0On() {
        SaidRecord x = new SaidRecord();
        due("line", x.line(0, 0, 0, 0, 1), 0);
        due("refused", x.line(0, 0, 0, 0, 0), NONE);
        due("reads", x.reads(0, 0, 0, 1, 0, 0), 1);
        due("refused", x.reads(0, 0, 0, 1, 4, 0), NONE);
        due("sits", x.sits(0, 0, 0), 2);
        due("office", x.office(0, 0), 3);
        due("paper", x.paper(0, 0, 0), 4);
        due("mend", x.fact(0, 0, 1, 0), 5);
        due("doubt", x.fact(1, 0, 1, 0), 6);
        due("struck", x.fact(2, 0, 1, 0), 7);
        due("court", x.fact(3, 0, 1, 0), 8);
        due("refused", x.rename(1, 1, 0), NONE);
        due("rename", x.rename(1, 2, 0), 9);
        due("vote", x.vote(0, 0, 0, 0), 10);
        due("count(0)", x.count(0), 11);
    }

    /** Each kind of fact may be the 180th, and none the 181st. */
    static void terms1_180FactsOfAllKinds() {
        for (int kind = 0; kind < 9; kind++) {
            SaidRecord x = new SaidRecord();
            x.line(0, 0, 0, 0, 1);
            for (int i = 1; i < 179; i++) {
                tell(x, i % 9);
            }
            due("count(0)", x.count(0), 179);
            due("the 180th, kind " + kind, tell(x, kind), 179);
            for (int other = 0; other < 9; other++) {
                due("a 181st, kind " + other, tell(x, other), NONE);
            }
            due("count(0)", x.count(0), 180);
        }
    }

    private static int tell(SaidRecord x, int kind) {
        switch (kind) {
            case 0:
                return x.line(0, 0, 0, 0, 1);
            case 1:
                return x.reads(0, 0, 0, 1, 0, 0);
            case 2:
                return x.sits(0, 0, 0);
            case 3:
                return x.office(0, 0);
            case 4:
                return x.paper(0, 0, 0);
            case 5:
                return x.fact(0, 0, 1, 0);
            case 6:
                return x.fact(3, 0, 1, 0);
            case 7:
                return x.rename(1, 2, 0);
            default:
                return x.vote(0, 0, 0, 0);
        }
    }

    static void terms1_knownByNAreTheFirstN() {
        SaidRecord x = Named.with("right r to 100*member+10*office+heard+lines;");
        x.line(1, 0, 0, 2, 50);
        x.sits(3, 2, 1);
        x.office(3, 2);
        x.fact(1, 0, 5, 0);
        x.line(1, 0, 0, 2, 50);
        int[] want = {NONE, 1, 401, 421, 426, 427, NONE};
        for (int n = 0; n < want.length; n++) {
            due("known by " + n, x.printed(0, 1, n, 0), want[n]);
        }
    }

    /** Facts of each kind, with the values that one of another kind would have, if it were that. */
    static void terms1_factsOfOtherKindsAreOfNoMatter() {
        SaidRecord x = Named.with("right r to 100*paper+10*office+heard+lines;mend m if 1<2;");
        x.office(0, 5);
        x.sits(0, 0, 0);
        x.paper(0, 0, 4);
        x.reads(0, 0, 0, 9, 0, 0);
        due("its word", x.printed(3, 0, 4, 0), 451);
        x.office(1, 2);
        x.sits(1, 1, 0);
        x.paper(0, 1, 2);
        x.rename(2, 1, 0);
        x.rename(3, 2, 0);
        x.vote(0, 0, 0, 0);
        x.vote(3, 0, 1, 1);
        x.fact(3, 3, 8, 0);
        int n = x.count(0);
        due("its word still", x.printed(3, 0, n, 0), 451);
        due("not struck", x.printed(3, 99, n, 1), 0);
        due("no mend", x.printed(3, 99, n, 4), 0);
        due("ayes", x.sum(0, 0, n), 1);
        due("noes", x.sum(0, 1, n), 0);
        due("noes of 3", x.sum(3, 1, n), 1);
        due("moved", x.moved(0, n), 9);
        due("moved", x.moved(3, n), -2);
        due("same", x.same(1, 3, 0, n), 1);
        due("not the same", x.same(4, 1, 99, n), 0);
        due("who", x.who(0, 99, n), 0);
        for (int f = 0; f < n; f++) {
            due("line " + f, x.printed(f, 99, n, 4), f == 3 ? 0 : NONE);
            due("mend " + f, x.mended(f, n), NONE);
            due("court " + f, x.court(f, n, 0), f == n - 1 ? 451 : NONE);
        }
    }

    static void terms1_linesStandByMinutesThenNumbers() {
        SaidRecord x = new SaidRecord();
        int[] minutes = {239, 0, 1, 239, 0, 120};
        for (int minute : minutes) {
            x.line(4, minute, 0, 0, 9);
        }
        int[] want = {1, 4, 2, 5, 0, 3};
        for (int k = 0; k < want.length; k++) {
            due("at " + k, x.at(4, 4, 6, k), want[k]);
            due("found " + k, x.found(9, 4, 6, k), want[k]);
        }
    }

    static void terms1_whoIsOfTheLatestDayNotLater() {
        SaidRecord x = new SaidRecord();
        x.sits(1, 4, 10);
        x.sits(2, 4, 20);
        due("on 9", x.who(4, 9, 2), -2);
        due("on 10", x.who(4, 10, 2), 1);
        due("on 19", x.who(4, 19, 2), 1);
        due("on 20", x.who(4, 20, 2), 2);
        due("on 99", x.who(4, 99, 2), 2);
    }

    static void terms1_whoIsTheLastToldOfOneDay() {
        SaidRecord x = new SaidRecord();
        x.sits(1, 4, 10);
        x.sits(2, 4, 10);
        x.sits(3, 4, 9);
        due("known by 1", x.who(4, 10, 1), 1);
        due("known by 2", x.who(4, 10, 2), 2);
        due("one of an earlier day, told later", x.who(4, 10, 3), 2);
        due("on that day", x.who(4, 9, 3), 3);
    }

    static void terms1_whoHasGoneToAnotherSeat() {
        SaidRecord x = new SaidRecord();
        x.sits(1, 4, 10);
        x.sits(1, 5, 12);
        due("the day ahead", x.who(4, 11, 2), 1);
        due("that day", x.who(4, 12, 2), -2);
        due("there the day ahead", x.who(5, 11, 2), -2);
        due("there that day", x.who(5, 12, 2), 1);
        due("not known", x.who(4, 12, 1), 1);
    }

    static void terms1_whoSatThereBeforeDoesNotComeBack() {
        SaidRecord x = new SaidRecord();
        x.sits(2, 4, 5);
        x.sits(1, 4, 10);
        x.sits(1, 5, 12);
        due("nobody, though 2 never went", x.who(4, 12, 3), -2);
    }

    static void terms1_whoSitsInTwoSeatsOfOneDay() {
        SaidRecord x = new SaidRecord();
        x.sits(1, 4, 10);
        x.sits(1, 5, 10);
        due("the first told", x.who(4, 10, 2), -2);
        due("the last told", x.who(5, 10, 2), 1);
        x.sits(1, 4, 10);
        due("told again", x.who(4, 10, 3), 1);
        due("so gone", x.who(5, 10, 3), -2);
    }
}
