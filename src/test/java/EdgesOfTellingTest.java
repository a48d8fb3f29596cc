/**
 * The boundary sentences of promises 1 to 13: the last value that is taken, the first that is not,
 * and, behind each refused call, that all is as if it had not been made. A test's name begins with
 * the promise's number. Promises 14 to 37 are in EdgesOfAskingTest.
 */
final class EdgesOfTellingTest {
    private static final int NONE = SaidRecord.NONE;
    private static final int N = House.FACTS;

    public static void main(String[] args) throws ReflectiveOperationException {
        Named.runAll(EdgesOfTellingTest.class, "promise");
    }

    private static void due(String call, long got, long want) {
        Named.due(call, got, want);
    }

    // ---- 1: a new object

    static void promise01_nothingIsTold() {
        SaidRecord x = new SaidRecord();
        for (int what = 0; what <= 5; what++) {
            due("count(" + what + ")", x.count(what), 0);
        }
        due("place()", x.place(), NONE);
        due("back(1)", x.back(1), NONE);
        for (int day : new int[] {0, 99}) {
            due("rules", x.rules(day), 0);
            due("rule", x.rule(day, 0, 0), NONE);
            due("lines", x.lines(day, day, 0), 0);
            due("at", x.at(day, day, 0, 0), NONE);
            due("names", x.names(1, day, 0), 0);
            due("found", x.found(1, day, 0, 0), NONE);
            due("same", x.same(1, 2, day, 0), 0);
        }
        for (int seat = 0; seat < 10; seat++) {
            due("who(" + seat + ")", x.who(seat, 99, 0), -2);
        }
        due("printed", x.printed(0, 0, 0, 0), NONE);
        due("mended", x.mended(0, 0), NONE);
        due("bar", x.bar(0, 0), NONE);
        due("court", x.court(0, 0, 0), NONE);
        due("fact", x.fact(0, 0, 1, 0), NONE);
        for (int division = 0; division < 4; division++) {
            due("sum of ayes", x.sum(division, 0, 0), 0);
            due("sum of noes", x.sum(division, 1, 0), 0);
            due("doubles", x.doubles(division, 0), 0);
            due("moved", x.moved(division, 0), -2);
        }
        due("turn(0)", x.turn(0), NONE);
    }

    static void promise01_rowsAreEmpty() {
        SaidRecord x = new SaidRecord();
        due("join()", x.join(), 0);
        due("joined(0)", x.joined(0), NONE);
        for (int w = 0; w < 3; w++) {
            due("apart(" + w + ", 0)", x.apart(w, 0), 0);
        }
        for (int w = 0; w < 3; w++) {
            due("take(" + w + ")", x.take(w, 1), 1);
        }
    }

    static void promise01_objectsAreApart() {
        SaidRecord x = new SaidRecord();
        SaidRecord other = House.told();
        due("count(0)", x.count(0), 0);
        due("count(1)", x.count(1), 0);
        due("rules(0)", x.rules(0), 0);
        due("join()", x.join(), 0);
        due("turn(0)", x.turn(0), NONE);
        due("the first fact", x.line(0, 0, 0, 0, 1), 0);
        Named.alike("another object", other, House.told());
    }

    // ---- 2: feed

    /** Blanks, then "strike a;", up to so many bytes. */
    private static SaidRecord fedTo(int bytes) {
        SaidRecord x = new SaidRecord();
        Check.feed(x, " ".repeat(bytes - 9) + "strike a;");
        return x;
    }

    private static int feed(SaidRecord x, String twenty) {
        return x.feed(Check.four(twenty, 0), Check.four(twenty, 4), Check.four(twenty, 8),
                Check.four(twenty, 12), Check.four(twenty, 16));
    }

    static void promise02_answersHowManyBytes() {
        SaidRecord x = new SaidRecord();
        for (int i = 1; i <= 100; i++) {
            due("feed no. " + i, x.feed(i, -i, 0, -1, 1), 20 * i);
            due("count(2)", x.count(2), 20 * i);
        }
    }

    static void promise02_twentyFitBehind1980() {
        SaidRecord x = fedTo(1980);
        due("feed", feed(x, "strike b;           "), 2000);
        due("read()", x.read(), 0);
        SaidRecord y = fedTo(1979);
        due("feed to 1999", feed(y, "strike b;          ?"), 1999);
        due("read()", y.read(), 1);
        due("place()", y.place(), 1998);
    }

    static void promise02_noneBehind1981() {
        for (int bytes : new int[] {1981, 1982, 1990, 1999, 2000}) {
            Named.refused("feed behind " + bytes, () -> fedTo(bytes),
                    x -> feed(x, "????????????????????"), NONE);
            SaidRecord x = fedTo(bytes);
            due("feed", feed(x, "????????????????????"), NONE);
            due("count(2)", x.count(2), bytes);
            due("the tape without it is read", x.read(), 0);
        }
    }

    static void promise02_refusedIsTakenAgainBehindBack() {
        SaidRecord x = fedTo(2000);
        due("feed", feed(x, "                    "), NONE);
        due("back(19)", x.back(19), 1981);
        due("feed", feed(x, "                    "), NONE);
        due("back(1)", x.back(1), 1980);
        due("feed", feed(x, "?                   "), 2000);
        due("read()", x.read(), 1);
        due("place()", x.place(), 1980);
    }

    /** A sign that is no token at each of the twenty places in turn. */
    static void promise02_highestByteOfAFirst() {
        for (int i = 0; i < 20; i++) {
            SaidRecord x = new SaidRecord();
            due("feed", feed(x, " ".repeat(i) + "?" + " ".repeat(19 - i)), 20);
            due("read()", x.read(), 1);
            due("place()", x.place(), i);
        }
    }

    static void promise02_bytesAreOfEightBits() {
        SaidRecord x = new SaidRecord();
        x.feed(0x20202020, 0x202020A0, 0x20202020, 0x20202020, 0x20202020);
        due("160 is no blank", x.read(), 1);
        due("place()", x.place(), 7);
        x.feed(0x20202020, 0x20202020, 0xFFFFFFFF, 0x20202020, 0x20202020);
        due("255 is none", x.read(), 1);
        due("place()", x.place(), 8);
        x.feed(0x20202020, 0x20202020, 0x20202020, 0x8A202020, 0x20202020);
        due("138 is none", x.read(), 1);
        due("place()", x.place(), 12);
    }

    // ---- 3: back

    static void promise03_lastBytesGo() {
        SaidRecord x = new SaidRecord();
        Check.feed(x, "strike a;strike b;?!");
        due("back(2)", x.back(2), 18);
        due("read()", x.read(), 0);
        due("count(1)", x.count(1), 1);
    }

    static void promise03_allGoAndNoMore() {
        due("back(20)", House.told().back(House.TAPE), 0);
        Named.refused("back(21)", House::told, x -> x.back(House.TAPE + 1), NONE);
        Named.refused("back(MAX)", House::told, x -> x.back(Integer.MAX_VALUE), NONE);
        SaidRecord y = fedTo(2000);
        due("back(2001)", y.back(2001), NONE);
        due("count(2)", y.count(2), 2000);
        due("back(2000)", y.back(2000), 0);
        due("back(1)", y.back(1), NONE);
        due("back(0)", y.back(0), 0);
    }

    static void promise03_belowZero() {
        Named.refused("back(-1)", House::told, x -> x.back(-1), NONE);
        Named.refused("back(MIN)", House::told, x -> x.back(Integer.MIN_VALUE), NONE);
        SaidRecord x = new SaidRecord();
        due("back(-1) of an empty tape", x.back(-1), NONE);
        due("count(2)", x.count(2), 0);
    }

    static void promise03_zeroIsTaken() {
        SaidRecord x = House.told();
        due("back(0)", x.back(0), House.TAPE);
        Named.alike("back(0)", x, House.told());
        due("back(0) of an empty tape", new SaidRecord().back(0), 0);
    }

    // ---- 4: read

    static void promise04_sixTextsAndNoMore() {
        SaidRecord x = new SaidRecord();
        for (int i = 0; i < 6; i++) {
            due("text " + i, Check.read(x, "bar " + (char) ('a' + i) + " if 1<2;"), 0);
            due("count(1)", x.count(1), i + 1);
            due("its number", x.rule(0, i, 1), i);
        }
        due("a seventh", Check.read(x, "bar g if 1<2;"), -2);
        due("count(1)", x.count(1), 6);
        due("rules(0)", x.rules(0), 6);
    }

    static void promise04_theTapeStays() {
        Named.refused("read()", House::withSixTexts, SaidRecord::read, -2);
        SaidRecord x = House.withSixTexts();
        due("read()", x.read(), -2);
        due("count(2)", x.count(2), House.TAPE);
        due("read() again", x.read(), -2);
        due("back(1)", x.back(1), House.TAPE - 1);
        due("feed", x.feed(0, 0, 0, 0, 0), House.TAPE + 19);
    }

    static void promise04_withSixTextsAnEmptyTapeToo() {
        SaidRecord x = House.withSixTexts();
        due("back", x.back(House.TAPE), 0);
        due("read()", x.read(), -2);
        due("count(1)", x.count(1), 6);
    }

    static void promise04_withSixTextsAFaultIsNotTold() {
        SaidRecord x = House.withSixTexts();
        x.back(House.TAPE);
        due("read() of what has a fault", Check.read(x, "?"), -2);
        due("count(2)", x.count(2), 1);
        due("place()", x.place(), NONE);
    }

    static void promise04_theTapeIsEmptyThen() {
        for (String text : new String[] {"", "strike a;", "?", "strike", "from 100;",
                "strike a;".repeat(25)}) {
            SaidRecord x = new SaidRecord();
            Check.read(x, text);
            due("count(2) behind " + text, x.count(2), 0);
            due("back(1)", x.back(1), NONE);
            due("the next text stands alone", Check.read(x, "bar a if 1<2;"), 0);
            due("rules(0)", x.rules(0), 1);
        }
    }

    static void promise04_anEmptyTextIsOne() {
        SaidRecord x = new SaidRecord();
        due("read()", x.read(), 0);
        due("count(1)", x.count(1), 1);
        due("rules(0)", x.rules(0), 0);
        due("read()", Check.read(x, "bar a if 1<2;"), 0);
        due("its text is the second", x.rule(0, 0, 1), 1);
    }

    static void promise04_faultsAreNoTexts() {
        SaidRecord x = new SaidRecord();
        for (int i = 0; i < 10; i++) {
            due("a fault", Check.read(x, "?"), 1);
        }
        for (int i = 0; i < 5; i++) {
            due("a text", x.read(), 0);
        }
        due("a fault behind five", Check.read(x, "from 100;"), 5);
        due("count(1)", x.count(1), 5);
        due("a sixth", Check.read(x, "bar a if 1<2;"), 0);
        due("its number", x.rule(0, 0, 1), 5);
        due("a seventh", x.read(), -2);
    }

    static void promise04_twoThousandBytes() {
        String text = "bar a if 1<2;" + " ".repeat(2000 - 13 - 13) + "bar b if 1<2;";
        SaidRecord x = new SaidRecord();
        due("read()", Check.read(x, text), 0);
        due("rules(0)", x.rules(0), 2);
        SaidRecord y = new SaidRecord();
        due("without the last byte", Check.read(y, text.substring(0, 1999)), 1);
        due("place()", y.place(), 1999);
    }

    // ---- 5: place

    static void promise05_noneWithout() {
        SaidRecord x = new SaidRecord();
        due("place() before any", x.place(), NONE);
        due("a text", x.read(), 0);
        due("place()", x.place(), NONE);
        due("a fault", Check.read(x, "   ?"), 1);
        due("place()", x.place(), 3);
        due("place() again", x.place(), 3);
        due("a text", x.read(), 0);
        due("place() behind a text", x.place(), NONE);
    }

    static void promise05_firstByteAndTextsEnd() {
        Named.fault("?", 1, 0);
        Named.fault("strike", 1, 6);
        Named.fault("strike ", 1, 7);
        Named.fault(" ".repeat(1999) + "?", 1, 1999);
        Named.fault("strike" + " ".repeat(1994), 1, 2000);
    }

    static void promise05_ofTheLatest() {
        SaidRecord x = new SaidRecord();
        Check.read(x, "     ?");
        Check.read(x, "  ?");
        due("place()", x.place(), 2);
        Check.read(x, "from 100;");
        due("place()", x.place(), 5);
        Check.read(x, "strike a;".repeat(25));
        due("place()", x.place(), 216);
    }

    /** The latest read() that was not -2 is the sixth text then: it had no fault. */
    static void promise05_notOfOneThatWasMinusTwo() {
        SaidRecord x = House.withSixTexts();
        due("read()", x.read(), -2);
        due("place()", x.place(), NONE);
    }

    static void promise05_otherCallsLeaveIt() {
        SaidRecord x = new SaidRecord();
        Check.read(x, " ?");
        Check.feed(x, "strike a;");
        x.back(3);
        x.line(0, 0, 0, 0, 1);
        x.rules(0);
        due("place()", x.place(), 1);
    }

    // ---- 6: line

    static void promise06_days() {
        Named.tells("day", 0, 99, (x, v) -> x.line(v, 0, 0, 0, 1));
    }

    static void promise06_minutes() {
        Named.tells("minute", 0, 239, (x, v) -> x.line(0, v, 0, 0, 1));
    }

    static void promise06_seats() {
        Named.tells("seat", 0, 9, (x, v) -> x.line(0, 0, 0, v, 1));
    }

    static void promise06_wordsSaid() {
        Named.tells("word", 1, 999, (x, v) -> x.line(0, 0, 0, 0, v));
    }

    static void promise06_wordsBrokenIn() {
        Named.tells("word", 1, 999, (x, v) -> x.line(0, 0, 2, 0, v));
    }

    static void promise06_noiseHasWord0() {
        Named.tells("word", 0, 0, (x, v) -> x.line(0, 0, 3, 0, v));
        Named.refused("noise 999", House::told, x -> x.line(0, 0, 3, 0, 999), NONE);
    }

    static void promise06_sorts() {
        due("said", House.told().line(0, 0, 0, 0, 1), N);
        due("broke in", House.told().line(0, 0, 2, 0, 1), N);
        due("noise", House.told().line(0, 0, 3, 0, 0), N);
        for (int sort : new int[] {-1, 1, 4, Integer.MIN_VALUE, Integer.MAX_VALUE}) {
            for (int word : new int[] {0, 1}) {
                Named.refused("sort " + sort, House::told, x -> x.line(0, 0, sort, 0, word), NONE);
            }
        }
    }

    static void promise06_lastValuesAreKept() {
        SaidRecord x = Named.with("leave l if minute!=239 or sort!=2 or member!=8 or was!=999;");
        x.sits(7, 9, 99);
        due("line", x.line(99, 239, 2, 9, 999), 1);
        due("all is as told", x.printed(1, 99, 2, 2), -2);
        due("its word", x.printed(1, 99, 2, 0), 999);
        due("its day", x.lines(99, 99, 2), 1);
        SaidRecord y = Named.with("leave l if minute!=0 or sort!=0 or member!=1 or was!=1;");
        y.sits(0, 0, 0);
        due("line", y.line(0, 0, 0, 0, 1), 1);
        due("all is as told", y.printed(1, 0, 2, 2), -2);
        due("its word", y.printed(1, 0, 2, 0), 1);
        due("its day", y.lines(0, 0, 2), 1);
    }

    static void promise06_180Facts() {
        SaidRecord x = new SaidRecord();
        for (int i = 0; i < 180; i++) {
            due("line", x.line(0, 0, 0, 0, 1), i);
        }
        due("a 181st", x.line(0, 0, 0, 0, 1), NONE);
        due("count(0)", x.count(0), 180);
        Named.refusedWhenFull("said", y -> y.line(0, 0, 0, 0, 1));
        Named.refusedWhenFull("broke in", y -> y.line(99, 0, 2, 0, 1));
        Named.refusedWhenFull("noise", y -> y.line(0, 0, 3, 0, 0));
    }

    // ---- 7: reads

    static void promise07_days() {
        Named.tells("day", 0, 99, (x, v) -> x.reads(v, 0, 0, 1, 0, 0));
    }

    static void promise07_minutes() {
        Named.tells("minute", 0, 239, (x, v) -> x.reads(0, v, 0, 1, 0, 0));
    }

    static void promise07_seats() {
        Named.tells("seat", 0, 9, (x, v) -> x.reads(0, 0, v, 1, 0, 0));
    }

    static void promise07_words() {
        Named.tells("word", 1, 999, (x, v) -> x.reads(0, 0, 0, v, 0, 0));
    }

    static void promise07_papers() {
        Named.tells("paper", 0, 3, (x, v) -> x.reads(0, 0, 0, 1, v, 0));
    }

    static void promise07_places() {
        Named.tells("place", 0, 9, (x, v) -> x.reads(0, 0, 0, 1, 0, v));
    }

    static void promise07_lastValuesAreKept() {
        SaidRecord x = Named.with("leave l if minute!=239 or sort!=1 or member!=8 or was!=999"
                + " or paper!=998;");
        x.sits(7, 9, 99);
        due("reads", x.reads(99, 239, 9, 999, 3, 9), 1);
        x.paper(3, 9, 998);
        due("all is as told", x.printed(1, 99, 3, 2), -2);
        due("its word", x.printed(1, 99, 3, 0), 999);
        SaidRecord y = Named.with("leave l if minute!=0 or sort!=1 or member!=1 or was!=1"
                + " or paper!=7;");
        y.sits(0, 0, 0);
        due("reads", y.reads(0, 0, 0, 1, 0, 0), 1);
        y.paper(0, 0, 7);
        due("all is as told", y.printed(1, 0, 3, 2), -2);
    }

    static void promise07_180Facts() {
        Named.refusedWhenFull("reads", x -> x.reads(0, 0, 0, 1, 0, 0));
        SaidRecord x = House.full();
        due("the last one", x.printed(179, 99, 180, 0), 180);
        due("reads", x.reads(0, 0, 0, 1, 3, 9), NONE);
        due("the last one still", x.printed(179, 99, 180, 0), 180);
    }

    // ---- 8: sits

    static void promise08_members() {
        Named.tells("member", 0, 7, (x, v) -> x.sits(v, 0, 0));
    }

    static void promise08_seats() {
        Named.tells("seat", 0, 9, (x, v) -> x.sits(0, v, 0));
    }

    static void promise08_days() {
        Named.tells("day", 0, 99, (x, v) -> x.sits(0, 0, v));
    }

    static void promise08_lastValuesAreKept() {
        SaidRecord x = new SaidRecord();
        x.sits(7, 9, 99);
        x.sits(0, 0, 0);
        due("seat 9 on 99", x.who(9, 99, 2), 7);
        due("seat 9 on 98", x.who(9, 98, 2), -2);
        due("seat 0 on 0", x.who(0, 0, 2), 0);
        due("seat 8", x.who(8, 99, 2), -2);
    }

    static void promise08_180Facts() {
        Named.refusedWhenFull("sits", x -> x.sits(7, 5, 0));
    }

    // ---- 9: office

    static void promise09_members() {
        Named.tells("member", 0, 7, (x, v) -> x.office(v, 1));
    }

    static void promise09_offices() {
        Named.tells("office", 0, 9, (x, v) -> x.office(2, v));
    }

    static void promise09_eachMemberHasItsOwn() {
        SaidRecord x = Named.with("right r to 100+office;");
        for (int member = 0; member < 8; member++) {
            x.sits(member, member, 0);
            x.line(0, 0, 0, member, 50);
        }
        for (int member = 0; member < 8; member++) {
            due("at first", x.printed(2 * member + 1, 0, 16, 0), 100);
        }
        for (int member = 0; member < 8; member++) {
            due("office", x.office(member, member + 2), 16 + member);
        }
        for (int member = 0; member < 8; member++) {
            due("its own", x.printed(2 * member + 1, 0, 24, 0), 102 + member);
        }
        x.office(7, 0);
        due("0 again", x.printed(15, 0, 25, 0), 100);
    }

    static void promise09_180Facts() {
        Named.refusedWhenFull("office", x -> x.office(2, 9));
    }

    // ---- 10: paper

    static void promise10_papers() {
        Named.tells("paper", 0, 3, (x, v) -> x.paper(v, 2, 1));
    }

    static void promise10_places() {
        Named.tells("place", 0, 9, (x, v) -> x.paper(1, v, 1));
    }

    static void promise10_words() {
        Named.tells("word", 0, 999, (x, v) -> x.paper(1, 2, v));
    }

    static void promise10_eachPlaceHasItsOwn() {
        SaidRecord x = Named.with("right r to 1+paper;");
        for (int i = 0; i < 40; i++) {
            x.reads(0, i, 0, 500, i / 10, i % 10);
        }
        due("at first none", x.printed(39, 0, 40, 0), 1);
        for (int i = 0; i < 40; i++) {
            x.paper(i / 10, i % 10, 100 + i);
        }
        for (int i = 0; i < 40; i++) {
            due("paper " + i / 10 + " place " + i % 10, x.printed(i, 0, 80, 0), 101 + i);
        }
    }

    static void promise10_fromNowOn() {
        SaidRecord x = Named.with("right r to 1+paper;");
        x.paper(3, 9, 997);
        x.reads(0, 0, 0, 500, 3, 9);
        x.paper(3, 9, 0);
        due("none known", x.printed(1, 0, 2, 0), 998);
        due("0: none", x.printed(1, 0, 3, 0), 1);
    }

    static void promise10_180Facts() {
        Named.refusedWhenFull("paper", x -> x.paper(1, 2, 999));
    }

    // ---- 11: fact

    static void promise11_kinds() {
        for (int kind = 0; kind <= 3; kind++) {
            due("kind " + kind, House.told().fact(kind, House.LINE, 1, 20), N);
        }
        for (int kind : new int[] {-1, 4, 5, Integer.MIN_VALUE, Integer.MAX_VALUE}) {
            Named.refused("kind " + kind, House::told, x -> x.fact(kind, House.LINE, 1, 20), NONE);
        }
    }

    /** Facts 4 to 7 are lines. */
    static void promise11_ofALine() {
        for (int kind = 0; kind <= 3; kind++) {
            int k = kind;
            Named.tells("kind " + kind + " of", House.LINE, House.STRUCK_LINE,
                    (x, v) -> x.fact(k, v, 1, 20));
            for (int of : new int[] {-1, 0, House.COURT, N - 1, N, N + 1, 180}) {
                Named.refused("kind " + k + " of " + of, House::told, x -> x.fact(k, of, 1, 20),
                        NONE);
            }
            due("of nothing told", new SaidRecord().fact(kind, 0, 1, 0), NONE);
        }
    }

    static void promise11_mendWords() {
        Named.tells("word", 1, 999, (x, v) -> x.fact(0, House.LINE, v, 20));
    }

    static void promise11_mendDays() {
        Named.tells("day", 0, 99, (x, v) -> x.fact(0, House.LINE, 1, v));
    }

    static void promise11_doubtWords() {
        Named.tells("word", 1, 999, (x, v) -> x.fact(1, House.LINE, v, 20));
    }

    static void promise11_doubtDayIsOfNoMatter() {
        for (int day : new int[] {Integer.MIN_VALUE, -1, 0, 99, 100, Integer.MAX_VALUE}) {
            SaidRecord x = House.told();
            due("day " + day, x.fact(1, House.LINE, 5, day), N);
            SaidRecord twin = House.told();
            due("day 20", twin.fact(1, House.LINE, 5, 20), N);
            Named.alike("day " + day, x, twin);
        }
    }

    static void promise11_struckDays() {
        Named.tells("day", 0, 99, (x, v) -> x.fact(2, House.LINE, 1, v));
    }

    static void promise11_struckWordIsOfNoMatter() {
        wordIsOfNoMatter(2);
    }

    static void promise11_courtWordIsOfNoMatter() {
        wordIsOfNoMatter(3);
    }

    private static void wordIsOfNoMatter(int kind) {
        for (int word : new int[] {Integer.MIN_VALUE, -1, 0, 1000, Integer.MAX_VALUE}) {
            SaidRecord x = House.told();
            due("word " + word, x.fact(kind, House.LINE, word, 13), N);
            SaidRecord twin = House.told();
            due("word 1", twin.fact(kind, House.LINE, 1, 13), N);
            Named.alike("word " + word, x, twin);
        }
    }

    /** The lines are of days 10 and 12. */
    static void promise11_courtNotAheadOfTheLine() {
        Named.tells("day", 10, 99, (x, v) -> x.fact(3, House.LINE, 0, v));
        Named.tells("day", 12, 99, (x, v) -> x.fact(3, House.STRUCK_LINE, 0, v));
        SaidRecord y = new SaidRecord();
        y.line(0, 0, 0, 0, 1);
        y.line(99, 0, 0, 0, 1);
        due("day 0", y.fact(3, 0, 0, 0), 2);
        due("day 98", y.fact(3, 1, 0, 98), NONE);
        due("day 99", y.fact(3, 1, 0, 99), 3);
    }

    static void promise11_othersMayBeAheadOfTheLine() {
        for (int kind = 0; kind <= 2; kind++) {
            due("kind " + kind, House.told().fact(kind, House.LINE, 1, 9), N);
        }
    }

    static void promise11_180Facts() {
        for (int kind = 0; kind <= 3; kind++) {
            int k = kind;
            Named.refusedWhenFull("kind " + kind, x -> x.fact(k, House.LINE, 9, 12));
        }
    }

    // ---- 12: rename

    static void promise12_words() {
        Named.tells("one", 1, 999, (x, v) -> x.rename(v, 3, 0));
        Named.tells("other", 1, 999, (x, v) -> x.rename(3, v, 0));
    }

    static void promise12_days() {
        Named.tells("day", 0, 99, (x, v) -> x.rename(3, 4, v));
    }

    static void promise12_oneAndTheSame() {
        for (int word : new int[] {1, 500, 999}) {
            Named.refused("both " + word, House::told, x -> x.rename(word, word, 0), NONE);
        }
        due("one beside the other", House.told().rename(998, 999, 0), N);
    }

    static void promise12_lastValuesAreKept() {
        SaidRecord x = new SaidRecord();
        x.rename(999, 1, 99);
        due("on 98", x.same(1, 999, 98, 1), 0);
        due("on 99", x.same(1, 999, 99, 1), 1);
        due("another", x.same(1, 998, 99, 1), 0);
        due("another", x.same(2, 999, 99, 1), 0);
    }

    static void promise12_180Facts() {
        Named.refusedWhenFull("rename", x -> x.rename(700, 1, 0));
    }

    // ---- 13: vote

    static void promise13_divisions() {
        Named.tells("division", 0, 3, (x, v) -> x.vote(v, 5, 0, 0));
    }

    static void promise13_members() {
        Named.tells("member", 0, 7, (x, v) -> x.vote(1, v, 1, 0));
    }

    static void promise13_sides() {
        Named.tells("side", 0, 1, (x, v) -> x.vote(1, 5, v, 0));
    }

    static void promise13_tellers() {
        Named.tells("teller", 0, 1, (x, v) -> x.vote(1, 5, 0, v));
    }

    static void promise13_lastValuesAreKept() {
        SaidRecord x = new SaidRecord();
        x.vote(3, 7, 1, 1);
        x.vote(0, 0, 0, 0);
        due("noes of 3", x.sum(3, 1, 2), 1);
        due("ayes of 0", x.sum(0, 0, 2), 1);
        x.vote(3, 7, 0, 1);
        due("doubles", x.doubles(3, 3), 128);
        due("of 0", x.doubles(0, 3), 0);
    }

    static void promise13_180Facts() {
        Named.refusedWhenFull("vote", x -> x.vote(1, 0, 1, 1));
    }
}
