import java.util.List;

/**
 * The boundary sentences of part III of the document's Terms:
 * a line as printed, the variables, the print, courts.
 */
final class Terms3Test {
    private static final int NONE = SaidRecord.NONE;
    /** The least int there is: 2 to the 31st, which wraps. */
    private static final String LEAST = "8192*8192*32";

    public static void main(String[] args) throws ReflectiveOperationException {
        Named.runAll(Terms3Test.class, "terms3_");
    }

    private static void due(String call, long got, long want) {
        Named.due(call, got, want);
    }

    // ---- a line as printed

    static void terms3_putRightIsHeldTo0And999() {
        Named.right("0", 0);
        Named.right("1", 1);
        Named.right("0-1", 0);
        Named.right("998", 998);
        Named.right("999", 999);
        Named.right("1000", 999);
        Named.right("9999", 999);
        Named.right(LEAST, 0);
        Named.right(LEAST + "-1", 999);
        Named.right("word", 50);
    }

    static void terms3_putRightByTheFirstThatHolds() {
        SaidRecord x = Named.with("right a to 7 if word==1;right b to 8 if word<=2;right c to 9;");
        for (int word = 1; word <= 3; word++) {
            x.line(0, 0, 0, 0, word);
        }
        for (int line = 0; line < 3; line++) {
            due("by", x.printed(line, 0, 3, 3), line);
            due("to", x.printed(line, 0, 3, 0), 7 + line);
        }
    }

    static void terms3_eachRightRuleHasItsOwnE() {
        SaidRecord x = Named.with("right a to 7;right b to 8;right c to word+4;right d to 1/0;"
                + "right e to 5;");
        for (String name : List.of("a", "b", "c", "d")) {
            int day = x.count(1);
            due("strike", Check.read(x, "from " + day + ";strike " + name + ";"), 0);
        }
        int[] want = {7, 8, 6, 0, 5};
        for (int day = 0; day < 5; day++) {
            x.line(day, 0, 0, 0, 2);
        }
        for (int day = 0; day < 5; day++) {
            due("on " + day, x.printed(day, 99, 5, 0), want[day]);
            due("by the first", x.printed(day, 99, 5, 3), 0);
        }
    }

    static void terms3_putRightByRulesOfTheLinesDay() {
        SaidRecord x = Named.with("from 5;right a to 7;");
        Check.read(x, "from 6;strike a;");
        for (int day = 4; day <= 6; day++) {
            x.line(day, 0, 0, 0, 1);
        }
        due("the day ahead", x.printed(0, 99, 3, 0), 1);
        due("that day", x.printed(1, 99, 3, 0), 7);
        due("its rule", x.printed(1, 99, 3, 3), 0);
        due("the day behind", x.printed(2, 99, 3, 0), 1);
        due("no rule", x.printed(2, 99, 3, 3), -2);
    }

    static void terms3_mendsNotBehindD() {
        SaidRecord x = Named.with("mend m if 1<2;");
        x.line(5, 0, 0, 0, 1);
        x.fact(0, 0, 2, 7);
        due("on 6", x.printed(0, 6, 2, 0), 1);
        due("on 7", x.printed(0, 7, 2, 0), 2);
        due("on 8", x.printed(0, 8, 2, 0), 2);
        due("let on 6", x.printed(0, 6, 2, 4), 0);
        due("let on 7", x.printed(0, 7, 2, 4), 1);
    }

    static void terms3_mendsNotAheadOfTheLine() {
        SaidRecord x = Named.with("mend m if 1<2;");
        x.line(5, 0, 0, 0, 1);
        x.fact(0, 0, 2, 4);
        due("ahead", x.printed(0, 5, 2, 0), 1);
        due("ahead", x.mended(1, 2), 1);
        x.fact(0, 0, 3, 5);
        due("on the line's day", x.printed(0, 5, 3, 0), 3);
        due("on the line's day", x.mended(2, 3), 0);
    }

    static void terms3_mendsOfOneLineAlone() {
        SaidRecord x = Named.with("mend m if times<1;");
        x.line(5, 0, 0, 0, 1);
        x.line(5, 0, 0, 0, 1);
        x.fact(0, 0, 2, 5);
        x.fact(0, 1, 3, 5);
        due("its own", x.printed(0, 5, 4, 0), 2);
        due("its own", x.printed(1, 5, 4, 0), 3);
        due("its own times", x.mended(3, 4), 0);
    }

    static void terms3_mendsByNumbers() {
        SaidRecord x = Named.with("mend m if 1<2;");
        x.line(5, 0, 0, 0, 1);
        x.fact(0, 0, 2, 9);
        x.fact(0, 0, 3, 8);
        due("on 8", x.printed(0, 8, 3, 0), 3);
        due("on 9 the last told", x.printed(0, 9, 3, 0), 3);
        due("let", x.printed(0, 9, 3, 4), 2);
        due("known by 2", x.printed(0, 9, 2, 0), 2);
    }

    static void terms3_mendsOfAStruckLine() {
        SaidRecord x = Named.with("mend m if 1<2;");
        x.line(5, 0, 0, 0, 1);
        x.fact(0, 0, 2, 7);
        x.fact(2, 0, 0, 8);
        x.fact(0, 0, 3, 8);
        x.fact(0, 0, 4, 7);
        due("the day ahead of it", x.mended(1, 5), 0);
        due("that day", x.mended(3, 5), 2);
        due("told later, of the day ahead", x.mended(4, 5), 0);
        due("printed on 9", x.printed(0, 9, 5, 0), 4);
        due("let", x.printed(0, 9, 5, 4), 2);
        x.fact(2, 0, 0, 7);
        due("struck on 7 too", x.mended(1, 6), 2);
        due("but not as known by 5", x.mended(1, 5), 0);
        due("let", x.printed(0, 9, 6, 4), 0);
    }

    static void terms3_mendRulesOfTheMendsDay() {
        SaidRecord x = Named.with("from 6;mend m if 1<2;");
        Check.read(x, "from 8;bar b if 1<2;");
        Check.read(x, "from 9;strike b;strike m;");
        x.line(5, 0, 0, 0, 1);
        int[] want = {3, 0, 0, 4, 3};
        for (int day = 5; day <= 9; day++) {
            x.fact(0, 0, day, day);
        }
        for (int day = 5; day <= 9; day++) {
            due("on " + day, x.mended(day - 4, 6), want[day - 5]);
        }
        due("printed on 99", x.printed(0, 99, 6, 0), 7);
        due("let", x.printed(0, 99, 6, 4), 2);
    }

    /** What is told behind a mend counts for it too, if it is known by n. */
    static void terms3_mendsByWhatIsKnownByN() {
        SaidRecord x = Named.with("mend m if heard==5 and office==3;bar b if lines==2;");
        x.line(5, 0, 0, 4, 1);
        x.fact(0, 0, 2, 6);
        x.fact(1, 0, 5, 0);
        x.sits(6, 4, 5);
        x.office(6, 3);
        x.line(5, 0, 0, 4, 1);
        x.fact(2, 0, 0, 6);
        x.fact(1, 0, 6, 0);
        int[] want = {NONE, NONE, 3, 3, 3, 0, 4, 2, 2};
        for (int n = 0; n < want.length; n++) {
            due("known by " + n, x.mended(1, n), want[n]);
            due("let by " + n, x.printed(0, 6, n, 4), n == 0 ? NONE : n == 5 ? 1 : 0);
        }
    }

    static void terms3_someMendRuleAndNoBarRule() {
        SaidRecord x = Named.with("mend a if next==1;mend b if next<=2;bar c if next==2;"
                + "bar d if next==9;");
        x.line(5, 0, 0, 0, 5);
        x.fact(0, 0, 1, 5);
        x.fact(0, 0, 2, 5);
        x.fact(0, 0, 3, 5);
        due("let", x.mended(1, 4), 0);
        due("barred", x.mended(2, 4), 4);
        due("no rule", x.mended(3, 4), 3);
    }

    static void terms3_struckNotBehindD() {
        SaidRecord x = new SaidRecord();
        x.line(5, 0, 0, 0, 1);
        x.line(5, 0, 0, 0, 1);
        x.fact(2, 0, 0, 7);
        due("on 6", x.printed(0, 6, 3, 1), 0);
        due("on 7", x.printed(0, 7, 3, 1), 1);
        due("on 8", x.printed(0, 8, 3, 1), 1);
        due("not known", x.printed(0, 8, 2, 1), 0);
        due("another line", x.printed(1, 8, 3, 1), 0);
        x.fact(2, 1, 0, 0);
        due("of a day ahead of the line's", x.printed(1, 5, 4, 1), 1);
    }

    static void terms3_leftByTheFirstThatHoldsOnD() {
        SaidRecord x = Named.with("from 6;leave a if word==1;leave b if 1<2;");
        Check.read(x, "from 8;strike a;");
        Check.read(x, "from 9;strike b;");
        x.line(5, 0, 0, 0, 1);
        int[] want = {-2, 0, 0, 0, -2};
        for (int day = 5; day <= 9; day++) {
            due("on " + day, x.printed(0, day, 1, 2), want[day - 5]);
        }
        x.line(5, 0, 0, 0, 2);
        due("the second", x.printed(1, 6, 2, 2), 1);
        due("is the first then", x.printed(1, 8, 2, 2), 0);
    }

    private static void variableIs(String name, int want) {
        SaidRecord x = Named.with("leave v if " + name + "!=" + want + ";");
        x.line(9, 0, 0, 0, 1);
        due(name + " is " + want, x.printed(0, 9, 1, 2), -2);
    }

    static void terms3_varsOfALineAtFirst() {
        for (String name : List.of("paper", "sort", "minute", "member", "office", "times", "heard",
                "next", "days")) {
            variableIs(name, 0);
        }
        for (String name : List.of("word", "was", "lines")) {
            variableIs(name, 1);
        }
    }

    static void terms3_varPaper() {
        SaidRecord x = Named.with("right r to 100+paper;");
        x.paper(0, 0, 9);
        x.line(0, 0, 0, 0, 1);
        x.line(0, 0, 2, 0, 1);
        x.line(0, 0, 3, 0, 0);
        x.reads(0, 0, 0, 1, 0, 0);
        x.reads(0, 0, 0, 1, 0, 1);
        x.reads(0, 0, 0, 1, 1, 0);
        int[] want = {100, 100, 100, 109, 100, 100};
        for (int line = 1; line <= 6; line++) {
            due("line " + line, x.printed(line, 0, 7, 0), want[line - 1]);
        }
        x.paper(0, 0, 8);
        due("known by 7", x.printed(4, 0, 7, 0), 109);
        due("known by 8", x.printed(4, 0, 8, 0), 108);
        x.paper(0, 0, 0);
        due("none any more", x.printed(4, 0, 9, 0), 100);
    }

    static void terms3_varSortAndMinute() {
        SaidRecord x = Named.with("right r to 240*sort+minute;");
        x.line(0, 239, 0, 0, 1);
        x.reads(0, 1, 0, 1, 0, 0);
        x.line(0, 0, 2, 0, 1);
        x.line(0, 239, 3, 0, 0);
        int[] want = {239, 241, 480, 959};
        for (int line = 0; line < 4; line++) {
            due("line " + line, x.printed(line, 0, 4, 0), want[line]);
        }
    }

    static void terms3_varMemberAndOffice() {
        SaidRecord x = Named.with("right r to 10*member+office;");
        x.line(5, 0, 0, 1, 1);
        x.office(0, 9);
        due("nobody", x.printed(0, 5, 2, 0), 0);
        x.sits(0, 1, 5);
        due("member 0", x.printed(0, 5, 3, 0), 19);
        due("known by 2", x.printed(0, 5, 2, 0), 0);
        x.sits(7, 1, 6);
        due("who sat there on its day", x.printed(0, 99, 4, 0), 19);
        x.sits(7, 1, 4);
        due("of an earlier day", x.printed(0, 99, 5, 0), 19);
        x.sits(7, 1, 5);
        due("member 7, office 0", x.printed(0, 99, 6, 0), 80);
        x.office(7, 1);
        x.office(7, 2);
        due("the latest told", x.printed(0, 99, 8, 0), 82);
        due("known by 7", x.printed(0, 99, 7, 0), 81);
        x.sits(7, 2, 5);
        due("gone", x.printed(0, 99, 9, 0), 0);
    }

    static void terms3_varDays() {
        SaidRecord x = Named.with("right r to 5+days;mend m if days==0 or days==3 or days==94;"
                + "leave l if days==2;court c if days==4;");
        x.line(5, 0, 0, 0, 1);
        due("(2) 0", x.printed(0, 50, 1, 0), 5);
        x.fact(0, 0, 10, 5);
        x.fact(0, 0, 11, 6);
        x.fact(0, 0, 12, 8);
        x.fact(0, 0, 13, 99);
        int[] fates = {0, 3, 0, 0};
        for (int mend = 1; mend <= 4; mend++) {
            due("(3) the mend's", x.mended(mend, 5), fates[mend - 1]);
        }
        due("(5) d", x.printed(0, 6, 5, 2), -2);
        due("(5) d", x.printed(0, 7, 5, 2), 2);
        due("(5) d", x.printed(0, 8, 5, 2), -2);
        x.fact(3, 0, 0, 8);
        x.fact(3, 0, 0, 9);
        due("courts d", x.court(5, 7, 1), -2);
        due("courts d", x.court(6, 7, 1), 3);
    }

    static void terms3_varTimes() {
        SaidRecord x = Named.with("right r to 5+times;mend m if next<9;bar b if times==2;"
                + "leave l if times==2;court c if times==1;");
        x.line(5, 0, 0, 0, 1);
        due("(2) 0", x.printed(0, 5, 1, 0), 5);
        x.fact(0, 0, 6, 5);
        x.fact(3, 0, 0, 5);
        x.fact(0, 0, 9, 5);
        x.fact(3, 0, 0, 5);
        x.fact(0, 0, 7, 5);
        x.fact(0, 0, 8, 5);
        x.fact(3, 0, 0, 5);
        due("one let", x.court(2, 8, 1), 4);
        due("one not let", x.court(4, 8, 1), 4);
        due("two let", x.court(7, 8, 1), -2);
        due("barred by two", x.mended(6, 8), 4);
        due("left by two", x.printed(0, 5, 8, 2), 3);
        due("not by one", x.printed(0, 5, 5, 2), -2);
    }

    static void terms3_varHeard() {
        SaidRecord x = Named.with("right r to heard;");
        x.line(5, 0, 0, 0, 1);
        x.line(5, 0, 0, 0, 1);
        x.fact(1, 0, 999, 99);
        x.fact(1, 0, 7, 0);
        x.fact(1, 1, 8, 0);
        due("none", x.printed(0, 5, 2, 0), 0);
        due("one", x.printed(0, 5, 3, 0), 999);
        due("the last, whatever its day", x.printed(0, 5, 4, 0), 7);
        due("not another line's", x.printed(0, 5, 5, 0), 7);
        due("another line's", x.printed(1, 5, 5, 0), 8);
    }

    /** The first fact there is, and the one behind a line, count as all others. */
    static void terms3_varsFromTheFirstFactOn() {
        SaidRecord x = Named.with("right r to 10*office+heard;");
        x.office(1, 3);
        x.sits(1, 4, 0);
        x.line(0, 0, 0, 4, 9);
        x.fact(1, 2, 5, 0);
        due("office and heard", x.printed(2, 0, 4, 0), 35);
        SaidRecord y = Named.with("right r to 10*member+paper;mend m if 1<2;");
        y.sits(1, 4, 0);
        y.reads(0, 0, 4, 9, 2, 2);
        y.fact(0, 1, 7, 0);
        y.fact(2, 1, 0, 1);
        due("a sits told first", y.printed(1, 0, 2, 0), 20);
        due("a mend right behind", y.printed(1, 0, 3, 0), 7);
        SaidRecord z = Named.with("right r to paper;");
        z.paper(2, 2, 6);
        z.reads(0, 0, 4, 9, 2, 2);
        z.fact(2, 1, 0, 0);
        due("a paper told first", z.printed(1, 0, 3, 0), 6);
        due("a struck right behind", z.printed(1, 0, 3, 1), 1);
    }

    static void terms3_varNext() {
        SaidRecord x = Named.with("right r to 5+next;mend m if next==999 or next==1;"
                + "leave l if next!=0;court c if next!=0;");
        x.line(5, 0, 0, 0, 1);
        x.fact(0, 0, 999, 5);
        x.fact(0, 0, 998, 5);
        x.fact(3, 0, 0, 5);
        due("else 0", x.printed(0, 5, 1, 0), 5);
        due("in (3) the mend's", x.mended(1, 4), 0);
        due("in (3) the mend's", x.mended(2, 4), 3);
        due("in (5) 0", x.printed(0, 5, 4, 2), -2);
        due("of courts 0", x.court(3, 4, 1), -2);
    }

    static void terms3_varWordAndWas() {
        SaidRecord x = Named.with("right r to word+was;mend m if word==2*was or word==7;"
                + "leave l if word==9 and was==3;court c if word==9 and was==3;");
        x.line(5, 0, 0, 0, 3);
        due("(2) as taken", x.printed(0, 5, 1, 0), 6);
        x.fact(0, 0, 7, 5);
        x.fact(0, 0, 9, 5);
        x.fact(0, 0, 8, 5);
        x.fact(3, 0, 0, 5);
        due("(3) put right", x.mended(1, 5), 0);
        due("(3) mended", x.mended(2, 5), 0);
        due("(3) mended again", x.mended(3, 5), 3);
        due("(5) mended", x.printed(0, 5, 5, 2), 2);
        due("courts", x.court(4, 5, 1), 3);
    }

    static void terms3_varLines() {
        SaidRecord x = Named.with("right r to lines;");
        x.line(5, 0, 0, 1, 9);
        x.line(5, 9, 3, 1, 0);
        x.reads(5, 9, 1, 9, 0, 0);
        x.line(5, 0, 0, 2, 9);
        x.line(6, 0, 0, 1, 9);
        x.sits(1, 1, 5);
        x.line(5, 0, 2, 1, 9);
        int[] want = {1, 2, 3, 3, 3, 3, 4};
        for (int n = 1; n <= 7; n++) {
            due("known by " + n, x.printed(0, 5, n, 0), want[n - 1]);
        }
        due("another seat", x.printed(3, 5, 7, 0), 1);
        due("another day", x.printed(4, 6, 7, 0), 1);
    }

    static void terms3_thePrintHasStruckLinesButNotThoseLeftOut() {
        SaidRecord x = Named.with("leave l if word==2;");
        x.line(5, 0, 0, 0, 1);
        x.line(5, 0, 0, 0, 2);
        x.line(5, 0, 0, 0, 3);
        x.fact(2, 0, 0, 5);
        x.fact(2, 1, 0, 5);
        due("lines", x.lines(5, 5, 5), 2);
        due("a struck one", x.at(5, 5, 5, 0), 0);
        due("another", x.at(5, 5, 5, 1), 2);
        due("it stands with word 0", x.names(1, 5, 5), 0);
        due("the other with its own", x.names(3, 5, 5), 1);
    }

    static void terms3_aCourtKnowsWhatWasToldBeforeIt() {
        SaidRecord x = Named.with("right r to heard+1;court c if heard==5;");
        x.line(5, 0, 0, 0, 9);
        x.fact(3, 0, 0, 5);
        x.fact(1, 0, 5, 0);
        x.fact(3, 0, 0, 5);
        x.fact(1, 0, 6, 0);
        due("shown before", x.court(1, 5, 0), 1);
        due("not kept", x.court(1, 5, 1), -2);
        due("as known by 2", x.court(1, 2, 2), 1);
        due("as known by 3", x.court(1, 3, 2), 6);
        due("as known by 5", x.court(1, 5, 2), 7);
        due("shown behind", x.court(3, 5, 0), 6);
        due("kept", x.court(3, 5, 1), 1);
        due("as known by 5", x.court(3, 5, 2), 7);
    }

    static void terms3_aCourtIsShownItsDay() {
        SaidRecord x = Named.with("mend m if 1<2;");
        x.line(5, 0, 0, 0, 9);
        x.fact(0, 0, 7, 6);
        x.fact(3, 0, 0, 5);
        x.fact(3, 0, 0, 6);
        due("on 5", x.court(2, 4, 0), 9);
        due("on 6", x.court(3, 4, 0), 7);
        due("on 5 as known by n", x.court(2, 4, 2), 9);
    }

    static void terms3_courtRulesOfItsDay() {
        SaidRecord x = Named.with("from 6;court a if 1<2;");
        Check.read(x, "from 8;strike a;");
        x.line(5, 0, 0, 0, 9);
        int[] want = {-2, 0, 0, -2};
        for (int day = 5; day <= 8; day++) {
            x.fact(3, 0, 0, day);
        }
        for (int day = 5; day <= 8; day++) {
            due("on " + day, x.court(day - 4, 5, 1), want[day - 5]);
        }
    }
}
