/** Each promise of the document: ordinary inputs, the edges that it names, and wrong inputs. */
public final class PromisesTest {
    private static final Check CHECK = new Check();

    private static void due(String call, long got, long want) {
        CHECK.due(call, got, want);
    }

    private static void due(String call, boolean got, boolean want) {
        CHECK.due(call, got, want);
    }

    /** A new object that has read a text without a fault. */
    private static SaidRecord with(String text) {
        SaidRecord x = new SaidRecord();
        due("read of " + text, Check.read(x, text), 0);
        return x;
    }

    public static void main(String[] args) {
        newObject();
        feed();
        back();
        read();
        tokens();
        syntax();
        room();
        wrongDay();
        faultsLeaveNothing();
        place();
        line();
        reads();
        sits();
        office();
        paper();
        fact();
        rename();
        vote();
        limitOfFacts();
        rulesAndRule();
        who();
        conditions();
        arithmetic();
        printedPutRight();
        variables();
        printedMends();
        printedStruckAndLeft();
        printedWrong();
        mended();
        bar();
        linesAndAt();
        court();
        take();
        clear();
        joinAndJoined();
        apart();
        sumAndDoubles();
        moved();
        reporter();
        roster();
        turn();
        namesAndFound();
        same();
        count();
        knownBy();
        CHECK.end();
    }

    private static void newObject() {
        CHECK.part("1 a new object");
        SaidRecord x = new SaidRecord();
        for (int what = 0; what <= 5; what++) {
            due("count(" + what + ")", x.count(what), 0);
        }
        due("place()", x.place(), SaidRecord.NONE);
        due("NONE", SaidRecord.NONE, -1);
        due("rules(0)", x.rules(0), 0);
        due("who(0, 0, 0)", x.who(0, 0, 0), -2);
        due("lines(0, 0, 0)", x.lines(0, 0, 0), 0);
        due("join()", x.join(), 0);
        due("joined(0)", x.joined(0), -1);
        due("apart(0, 1)", x.apart(0, 1), 0);
        due("sum(0, 0, 0)", x.sum(0, 0, 0), 0);
        due("moved(0, 0)", x.moved(0, 0), -2);
        due("turn(0)", x.turn(0), -1);
        due("names(1, 0, 0)", x.names(1, 0, 0), 0);
        x.line(0, 0, 0, 0, 1);
        due("another object's count(0)", new SaidRecord().count(0), 0);
    }

    private static void feed() {
        CHECK.part("2 feed");
        SaidRecord x = new SaidRecord();
        for (int i = 1; i <= 99; i++) {
            due("feed no. " + i, x.feed(i, i, i, i, i), 20 * i);
        }
        due("back(1)", x.back(1), 1979);
        due("feed to 1999", x.feed(0, 0, 0, 0, 0), 1999);
        due("feed beyond", x.feed(0, 0, 0, 0, 0), -1);
        due("count(2)", x.count(2), 1999);
        due("back(19)", x.back(19), 1980);
        due("feed to 2000", x.feed(-1, -1, -1, -1, -1), 2000);
        due("feed beyond 2000", x.feed(0, 0, 0, 0, 0), -1);
        due("count(2)", x.count(2), 2000);
        SaidRecord y = new SaidRecord();
        y.feed(Check.four("bar ", 0), Check.four("a if", 0), Check.four(" 1 <", 0),
                Check.four("= 2 ", 0), Check.four(";!  ", 0));
        due("read()", y.read(), 1);
        due("place(): the bytes come with the highest first", y.place(), 17);
        y.feed(0x62617220, 0x61206966, 0x20313C3D, 0xB2202020, 0x20202020);
        due("read() of a byte above 127", y.read(), 1);
        due("place() of it", y.place(), 12);
    }

    private static void back() {
        CHECK.part("3 back");
        SaidRecord x = new SaidRecord();
        due("back(0)", x.back(0), 0);
        due("back(1)", x.back(1), -1);
        x.feed(0, 0, 0, 0, 0);
        due("back(-1)", x.back(-1), -1);
        due("back(21)", x.back(21), -1);
        due("back(MAX)", x.back(Integer.MAX_VALUE), -1);
        due("back(MIN)", x.back(Integer.MIN_VALUE), -1);
        due("count(2)", x.count(2), 20);
        due("back(5)", x.back(5), 15);
        due("back(15)", x.back(15), 0);
        Check.feed(x, "strike a;!!");
        due("back(2)", x.back(2), 9);
        due("read()", x.read(), 0);
    }

    private static void read() {
        CHECK.part("4 read");
        SaidRecord x = new SaidRecord();
        Check.feed(x, "bar a if 1==1;");
        due("read()", x.read(), 0);
        due("count(2): the tape is empty", x.count(2), 0);
        due("count(1)", x.count(1), 1);
        due("read() with a fault", Check.read(x, "from 1; bar b if 1==1; bar"), 1);
        due("count(2): the tape is empty", x.count(2), 0);
        due("count(1): a fault changes nothing", x.count(1), 1);
        due("rules(99)", x.rules(99), 1);
        due("rule(99, 0, 1)", x.rule(99, 0, 1), 0);
        for (int i = 2; i <= 6; i++) {
            due("read() of an empty text", x.read(), 0);
            due("count(1)", x.count(1), i);
        }
        Check.feed(x, "bar b if 1==1;");
        due("read() of a 7th", x.read(), -2);
        due("count(2): the tape stays", x.count(2), 14);
        due("count(1)", x.count(1), 6);
        due("rules(99)", x.rules(99), 1);
    }

    private static void fault(String text, int fault, int place) {
        SaidRecord x = new SaidRecord();
        due("read of \"" + text + "\"", Check.read(x, text), fault);
        due("place behind \"" + text + "\"", x.place(), place);
        due("count(1) behind \"" + text + "\"", x.count(1), fault == 0 ? 1 : 0);
    }

    private static void tokens() {
        CHECK.part("4 read, tokens");
        fault("", 0, -1);
        fault(" \t\n\r", 0, -1);
        fault("bar\ta\nif\r1==2;", 0, -1);
        fault("bar a if 1==2\f;", 1, 13);
        fault("bar a if(1)<=(word);strike b;", 0, -1);
        fault("from 5;bar a if 1<2;", 0, -1);
        fault("from5;bar a if1<2;", 0, -1);
        fault("bara if 1<2;", 1, 0);
        fault("bar aif 1<2;", 1, 8);
        fault("bar abcdefgh if 1<2;", 0, -1);
        fault("bar abcdefghi if 1<2;", 1, 4);
        fault("strike rightabc;", 0, -1);
        fault("strike if;", 1, 7);
        fault("strike lines;", 1, 7);
        fault("strike from;", 1, 7);
        fault("strike Ab;", 1, 7);
        fault("strike aB;", 1, 8);
        fault("strike a1;", 1, 8);
        fault("bar a if 9999==0001;", 0, -1);
        fault("bar a if 10000==1;", 1, 9);
        fault("bar a if 00001==1;", 1, 9);
        fault("bar a if 1=1;", 1, 10);
        fault("bar a if 1===1;", 1, 12);
        fault("bar a if 1!1;", 1, 10);
        fault("bar a if 1!=1;", 0, -1);
        fault("bar a if 1<==1;", 1, 12);
        fault("bar a if 1< =1;", 1, 12);
        fault("bar a if 1>1;", 1, 10);
        fault("bar a if 1=", 1, 10);
        fault("bar a if 1!", 1, 10);
        fault("bar a if 1<1.", 1, 12);
        for (String var : new String[] {"word", "was", "paper", "sort", "minute", "member",
                "office", "days", "times", "heard", "next", "lines"}) {
            fault("court a if " + var + "<1;", 0, -1);
        }
    }

    private static void syntax() {
        CHECK.part("4 read, syntax");
        fault("from", 1, 4);
        fault("from;", 1, 4);
        fault("from 1", 1, 6);
        fault("from 1 bar", 1, 7);
        fault("from 1; from 2;", 1, 8);
        fault("strike a; from 2;", 1, 10);
        fault("word", 1, 0);
        fault("bar", 1, 3);
        fault("bar   ", 1, 6);
        fault("bar a ;", 1, 6);
        fault("bar a to 1;", 1, 6);
        fault("right a if 1<1;", 1, 8);
        fault("right a to 1 if;", 1, 15);
        fault("right a to 1;", 0, -1);
        fault("right a to 1 if 1<2;", 0, -1);
        fault("right a to 1<2;", 1, 12);
        fault("right a to not 1;", 1, 11);
        fault("right a to -1;", 1, 11);
        fault("right a to 1+;", 1, 13);
        fault("right a to 1 1;", 1, 13);
        fault("right a to (1;", 1, 13);
        fault("right a to 1);", 1, 12);
        fault("right a to ();", 1, 12);
        fault("right a to (1+2)*(3-4)/5;", 0, -1);
        fault("right a to b;", 1, 11);
        fault("bar a if 1;", 1, 10);
        fault("bar a if 1<2<3;", 1, 12);
        fault("bar a if (1<2);", 1, 11);
        fault("bar a if not not 1<2;", 0, -1);
        fault("bar a if 1 not <2;", 1, 11);
        fault("bar a if 1<not 2;", 1, 11);
        fault("bar a if 1<2 and 2<3 or not 3<4;", 0, -1);
        fault("bar a if 1<2 and or 3<4;", 1, 17);
        fault("bar a if 1<2 or;", 1, 15);
        fault("strike a if 1<2;", 1, 9);
        fault("strike a", 1, 8);
        fault(";", 1, 0);
        fault("strike a;;", 1, 9);
        fault("strike a;#", 1, 9);
    }

    private static void room() {
        CHECK.part("4 read, room");
        String terms = "+1".repeat(197);
        // right a to 1 {+ 1} ; : four tokens, two each, one more.
        fault("right a to 1" + terms + ";", 0, -1);
        fault("right a to 1" + terms + ";strike", 1, 13 + 394 + 6);
        fault("right a to 1" + terms + ";strike a", 2, 13 + 394 + 7);
        fault("right a to 1" + terms + "+1;", 2, 12 + 394 + 2);
        fault("right a to 1" + terms + "+1", 1, 12 + 394 + 2);
        String full = "from 1;" + "right a to 1" + "+1".repeat(195) + ";strike";
        fault(full + " a", 1, full.length() + 2);
        fault(full + " a;", 2, full.length() + 2);
        fault(full + " a b", 1, full.length() + 3);
        fault(full + " a?", 1, full.length() + 2);
        fault("strike a;".repeat(24), 0, -1);
        fault("strike a;".repeat(25), 2, 9 * 24);
        fault("strike a;".repeat(24) + "word", 1, 9 * 24);
        fault("strike a;".repeat(24) + " bar", 2, 9 * 24 + 1);
        fault("strike a;".repeat(24) + "#", 1, 9 * 24);
        fault("right a to ((((((1))))));", 0, -1);
        fault("right a to (((((((1)))))));", 2, 17);
        fault("right a to ((((((1))))))+((((((1))))));", 0, -1);
        fault("right a to ((((((1)+1)+1))))+(((((((1", 2, 35);
        fault("right a to (((((()", 1, 17);
        fault("bar a if ((((((1))))))<((((((1))))));", 0, -1);
        fault("bar a if ((((((1))))))<(((((((1", 2, 29);
        fault("bar a if " + "not ".repeat(392) + "1<1;", 0, -1);
        fault("bar a if " + "not ".repeat(394) + "1<1;", 2, 9 + 4 * 394 + 3);
    }

    private static void wrongDay() {
        CHECK.part("4 read, wrong");
        fault("from 99;", 0, -1);
        fault("from 0099;strike a;", 0, -1);
        fault("from 100;", 5, 5);
        fault("  from  100;strike a;", 5, 8);
        fault("from 100;strike", 1, 15);
        fault("from 100;" + "strike a;".repeat(25), 2, 9 + 9 * 24);
    }

    /** Long texts with a fault at their end take no room from those that come behind them. */
    private static void faultsLeaveNothing() {
        CHECK.part("4 read, a fault changes nothing");
        SaidRecord x = new SaidRecord();
        for (int i = 0; i < 8; i++) {
            due("a long one", Check.read(x, "right a to 1" + "+1".repeat(196)), 1);
        }
        due("a whole one", Check.read(x, "right a to 1" + "+1".repeat(196) + ";"), 0);
        x.line(0, 0, 0, 0, 5);
        due("its value", x.printed(0, 0, 1, 0), 197);
        due("rules(0)", x.rules(0), 1);
        due("rule(0, 0, 1)", x.rule(0, 0, 1), 0);
        SaidRecord y = new SaidRecord();
        for (int i = 0; i < 12; i++) {
            due("parentheses that stay open", Check.read(y, "right a to 1+1*((((((2-1"), 1);
        }
        due("a whole one", Check.read(y, "right a to (1+2)*(4+(5-1)*2);"), 0);
        y.line(0, 0, 0, 0, 5);
        due("its value", y.printed(0, 0, 1, 0), 36);
    }

    private static void place() {
        CHECK.part("5 place");
        SaidRecord x = new SaidRecord();
        due("a fault", Check.read(x, "   ?"), 1);
        due("place()", x.place(), 3);
        due("no fault", Check.read(x, ""), 0);
        due("place()", x.place(), -1);
        for (int i = 0; i < 4; i++) {
            x.read();
        }
        due("a fault with 5 texts", Check.read(x, "a"), 1);
        due("place()", x.place(), 0);
        due("a sixth", Check.read(x, ""), 0);
        due("place()", x.place(), -1);
        due("a seventh", Check.read(x, "  ?"), -2);
        due("place() is not of it", x.place(), -1);
    }

    private static void line() {
        CHECK.part("6 line");
        SaidRecord x = new SaidRecord();
        due("line(0, 0, 0, 0, 1)", x.line(0, 0, 0, 0, 1), 0);
        due("line(99, 239, 2, 9, 999)", x.line(99, 239, 2, 9, 999), 1);
        due("line(99, 239, 3, 9, 0)", x.line(99, 239, 3, 9, 0), 2);
        due("day 100", x.line(100, 0, 0, 0, 1), -1);
        due("day -1", x.line(-1, 0, 0, 0, 1), -1);
        due("minute 240", x.line(0, 240, 0, 0, 1), -1);
        due("minute -1", x.line(0, -1, 0, 0, 1), -1);
        due("sort 1", x.line(0, 0, 1, 0, 1), -1);
        due("sort 4", x.line(0, 0, 4, 0, 1), -1);
        due("sort -1", x.line(0, 0, -1, 0, 1), -1);
        due("seat 10", x.line(0, 0, 0, 10, 1), -1);
        due("seat -1", x.line(0, 0, 0, -1, 1), -1);
        due("word 0 said", x.line(0, 0, 0, 0, 0), -1);
        due("word 0 broke in", x.line(0, 0, 2, 0, 0), -1);
        due("word 1000", x.line(0, 0, 0, 0, 1000), -1);
        due("word of noise", x.line(0, 0, 3, 0, 1), -1);
        due("count(0)", x.count(0), 3);
        due("its word", x.printed(1, 99, 3, 0), 999);
        due("noise's word", x.printed(2, 99, 3, 0), 0);
    }

    private static void reads() {
        CHECK.part("7 reads");
        SaidRecord x = new SaidRecord();
        due("reads(0, 0, 0, 1, 0, 0)", x.reads(0, 0, 0, 1, 0, 0), 0);
        due("reads(99, 239, 9, 999, 3, 9)", x.reads(99, 239, 9, 999, 3, 9), 1);
        due("day 100", x.reads(100, 0, 0, 1, 0, 0), -1);
        due("day -1", x.reads(-1, 0, 0, 1, 0, 0), -1);
        due("minute 240", x.reads(0, 240, 0, 1, 0, 0), -1);
        due("minute -1", x.reads(0, -1, 0, 1, 0, 0), -1);
        due("seat 10", x.reads(0, 0, 10, 1, 0, 0), -1);
        due("seat -1", x.reads(0, 0, -1, 1, 0, 0), -1);
        due("word 0", x.reads(0, 0, 0, 0, 0, 0), -1);
        due("word 1000", x.reads(0, 0, 0, 1000, 0, 0), -1);
        due("paper 4", x.reads(0, 0, 0, 1, 4, 0), -1);
        due("paper -1", x.reads(0, 0, 0, 1, -1, 0), -1);
        due("place 10", x.reads(0, 0, 0, 1, 0, 10), -1);
        due("place -1", x.reads(0, 0, 0, 1, 0, -1), -1);
        due("count(0)", x.count(0), 2);
        due("its word", x.printed(1, 99, 2, 0), 999);
    }

    private static void sits() {
        CHECK.part("8 sits");
        SaidRecord x = new SaidRecord();
        due("sits(0, 0, 0)", x.sits(0, 0, 0), 0);
        due("sits(7, 9, 99)", x.sits(7, 9, 99), 1);
        due("member 8", x.sits(8, 0, 0), -1);
        due("member -1", x.sits(-1, 0, 0), -1);
        due("seat 10", x.sits(0, 10, 0), -1);
        due("seat -1", x.sits(0, -1, 0), -1);
        due("day 100", x.sits(0, 0, 100), -1);
        due("day -1", x.sits(0, 0, -1), -1);
        due("count(0)", x.count(0), 2);
        due("who(9, 99, 2)", x.who(9, 99, 2), 7);
    }

    private static void office() {
        CHECK.part("9 office");
        SaidRecord x = with("right a to 100+office;");
        x.sits(7, 1, 0);
        x.line(0, 0, 0, 1, 5);
        due("office at first", x.printed(1, 0, 2, 0), 100);
        due("office(7, 9)", x.office(7, 9), 2);
        due("office(6, 3)", x.office(6, 3), 3);
        due("office(7, 0)", x.office(7, 0), 4);
        due("known by 2", x.printed(1, 0, 2, 0), 100);
        due("known by 3", x.printed(1, 0, 3, 0), 109);
        due("known by 4", x.printed(1, 0, 4, 0), 109);
        due("known by 5", x.printed(1, 0, 5, 0), 100);
        due("member 8", x.office(8, 0), -1);
        due("member -1", x.office(-1, 0), -1);
        due("office 10", x.office(0, 10), -1);
        due("office -1", x.office(0, -1), -1);
        due("count(0)", x.count(0), 5);
    }

    private static void paper() {
        CHECK.part("10 paper");
        SaidRecord x = with("right a to 100+paper;");
        due("paper(3, 9, 999)", x.paper(3, 9, 999), 0);
        x.reads(0, 0, 0, 5, 3, 9);
        x.line(0, 0, 0, 0, 5);
        due("held to 999", x.printed(1, 0, 3, 0), 999);
        due("of another sort", x.printed(2, 0, 3, 0), 100);
        due("paper(3, 9, 7)", x.paper(3, 9, 7), 3);
        due("paper(2, 9, 8)", x.paper(2, 9, 8), 4);
        due("paper(3, 8, 9)", x.paper(3, 8, 9), 5);
        due("known by 4", x.printed(1, 0, 4, 0), 107);
        due("known by 6", x.printed(1, 0, 6, 0), 107);
        due("paper(3, 9, 0)", x.paper(3, 9, 0), 6);
        due("known by 7", x.printed(1, 0, 7, 0), 100);
        due("paper 4", x.paper(4, 0, 1), -1);
        due("paper -1", x.paper(-1, 0, 1), -1);
        due("place 10", x.paper(0, 10, 1), -1);
        due("place -1", x.paper(0, -1, 1), -1);
        due("word 1000", x.paper(0, 0, 1000), -1);
        due("word -1", x.paper(0, 0, -1), -1);
        due("count(0)", x.count(0), 7);
    }

    private static void fact() {
        CHECK.part("11 fact");
        SaidRecord x = new SaidRecord();
        due("no line yet", x.fact(0, 0, 1, 0), -1);
        x.line(5, 0, 0, 0, 1);
        x.sits(0, 0, 0);
        due("mend", x.fact(0, 0, 999, 99), 2);
        due("mend ahead of the line", x.fact(0, 0, 1, 0), 3);
        due("doubt, day of no matter", x.fact(1, 0, 1, -7), 4);
        due("struck, word of no matter", x.fact(2, 0, -7, 0), 5);
        due("court, word of no matter", x.fact(3, 0, 4000, 5), 6);
        due("court ahead of the line", x.fact(3, 0, 1, 4), -1);
        due("kind 4", x.fact(4, 0, 1, 9), -1);
        due("kind -1", x.fact(-1, 0, 1, 9), -1);
        due("of a sits", x.fact(0, 1, 1, 9), -1);
        due("of a mend", x.fact(1, 2, 1, 9), -1);
        due("of none", x.fact(2, 7, 1, 9), -1);
        due("of -1", x.fact(2, -1, 1, 9), -1);
        due("mend to 0", x.fact(0, 0, 0, 9), -1);
        due("mend to 1000", x.fact(0, 0, 1000, 9), -1);
        due("doubt 0", x.fact(1, 0, 0, 9), -1);
        due("doubt 1000", x.fact(1, 0, 1000, 9), -1);
        due("mend on 100", x.fact(0, 0, 1, 100), -1);
        due("mend on -1", x.fact(0, 0, 1, -1), -1);
        due("struck on 100", x.fact(2, 0, 1, 100), -1);
        due("struck on -1", x.fact(2, 0, 1, -1), -1);
        due("court on 100", x.fact(3, 0, 1, 100), -1);
        due("court on -1", x.fact(3, 0, 1, -1), -1);
        due("count(0)", x.count(0), 7);
    }

    private static void rename() {
        CHECK.part("12 rename");
        SaidRecord x = new SaidRecord();
        due("rename(1, 999, 99)", x.rename(1, 999, 99), 0);
        due("one and the same", x.rename(3, 3, 0), -1);
        due("word 0", x.rename(0, 3, 0), -1);
        due("word 1000", x.rename(1000, 3, 0), -1);
        due("other 0", x.rename(3, 0, 0), -1);
        due("other 1000", x.rename(3, 1000, 0), -1);
        due("day 100", x.rename(1, 2, 100), -1);
        due("day -1", x.rename(1, 2, -1), -1);
        due("count(0)", x.count(0), 1);
        due("same(999, 1, 99, 1)", x.same(999, 1, 99, 1), 1);
    }

    private static void vote() {
        CHECK.part("13 vote");
        SaidRecord x = new SaidRecord();
        due("vote(3, 7, 1, 1)", x.vote(3, 7, 1, 1), 0);
        due("vote(0, 0, 0, 0)", x.vote(0, 0, 0, 0), 1);
        due("division 4", x.vote(4, 0, 0, 0), -1);
        due("division -1", x.vote(-1, 0, 0, 0), -1);
        due("member 8", x.vote(0, 8, 0, 0), -1);
        due("member -1", x.vote(0, -1, 0, 0), -1);
        due("side 2", x.vote(0, 0, 2, 0), -1);
        due("side -1", x.vote(0, 0, -1, 0), -1);
        due("teller 2", x.vote(0, 0, 0, 2), -1);
        due("teller -1", x.vote(0, 0, 0, -1), -1);
        due("count(0)", x.count(0), 2);
        due("sum(3, 1, 2)", x.sum(3, 1, 2), 1);
    }

    private static void limitOfFacts() {
        CHECK.part("6 to 13, 180 facts");
        SaidRecord x = new SaidRecord();
        for (int i = 0; i < 180; i++) {
            due("line no. " + i, x.line(0, 239 - i, 0, i % 10, 1 + i), i);
        }
        due("line", x.line(0, 0, 0, 0, 1), -1);
        due("reads", x.reads(0, 0, 0, 1, 0, 0), -1);
        due("sits", x.sits(0, 0, 0), -1);
        due("office", x.office(0, 0), -1);
        due("paper", x.paper(0, 0, 0), -1);
        due("mend", x.fact(0, 0, 1, 1), -1);
        due("rename", x.rename(1, 2, 0), -1);
        due("vote", x.vote(0, 0, 0, 0), -1);
        due("count(0)", x.count(0), 180);
        due("lines(0, 0, 180)", x.lines(0, 0, 180), 180);
        due("at(0, 0, 180, 0)", x.at(0, 0, 180, 0), 179);
        due("at(0, 0, 180, 179)", x.at(0, 0, 180, 179), 0);
        due("found(180, 99, 180, 0)", x.found(180, 99, 180, 0), 179);
    }

    private static void rulesAndRule() {
        CHECK.part("14 rules, 15 rule");
        SaidRecord x = new SaidRecord();
        // Text 0 is of day 10, text 1 of day 5, text 2 of none, text 3 of day 10 again.
        Check.read(x, "from 10; bar b if 1<2; strike c; leave n if 1<2;");
        Check.read(x, "from 5; strike a; right a to 1; mend e if 1<2; court b if 1<2;");
        Check.read(x, "mend a if 1<2; bar b if 1<2; leave c if 1<2; strike none;");
        Check.read(x, "from 10; right n to 3; strike e; court f if 1<2; strike f;");
        due("count(1)", x.count(1), 4);
        due("rules(0)", x.rules(0), 3);
        due("rules(4)", x.rules(4), 3);
        rule(x, 4, 0, 1, 2, 0);
        rule(x, 4, 1, 2, 2, 1);
        rule(x, 4, 2, 3, 2, 2);
        due("rules(5)", x.rules(5), 4);
        rule(x, 5, 0, 4, 1, 3);
        rule(x, 5, 1, 3, 2, 2);
        rule(x, 5, 2, 0, 1, 1);
        rule(x, 9, 3, 1, 1, 2);
        due("rules(10)", x.rules(10), 3);
        rule(x, 10, 0, 2, 0, 0);
        rule(x, 10, 1, 0, 1, 1);
        rule(x, 99, 2, 0, 3, 0);
        due("rules(99)", x.rules(99), 3);
        due("rules(100)", x.rules(100), -1);
        due("rules(-1)", x.rules(-1), -1);
        due("rule k 3", x.rule(10, 3, 0), -1);
        due("rule k -1", x.rule(10, -1, 0), -1);
        due("rule day 100", x.rule(100, 0, 0), -1);
        due("rule day -1", x.rule(-1, 0, 0), -1);
        due("rule what 3", x.rule(10, 0, 3), -1);
        due("rule what -1", x.rule(10, 0, -1), -1);
        SaidRecord y = new SaidRecord();
        for (int text = 0; text < 6; text++) {
            StringBuilder many = new StringBuilder();
            for (int i = 0; i < 24; i++) {
                many.append("bar ").append((char) ('a' + text)).append((char) ('a' + i));
                many.append(" if word==").append(24 * text + i).append(';');
            }
            due("24 rules", Check.read(y, many.toString()), 0);
        }
        due("rules of six full texts", y.rules(0), 144);
        rule(y, 0, 143, 2, 5, 23);
        rule(y, 0, 50, 2, 2, 2);
    }

    private static void rule(SaidRecord x, int day, int k, int sort, int text, int number) {
        due("rule(" + day + ", " + k + ", 0)", x.rule(day, k, 0), sort);
        due("rule(" + day + ", " + k + ", 1)", x.rule(day, k, 1), text);
        due("rule(" + day + ", " + k + ", 2)", x.rule(day, k, 2), number);
    }

    private static void who() {
        CHECK.part("16 who");
        SaidRecord x = new SaidRecord();
        x.sits(1, 4, 10);
        x.sits(2, 4, 10);
        x.sits(3, 4, 8);
        due("before all", x.who(4, 7, 3), -2);
        due("on 8", x.who(4, 8, 3), 3);
        due("on 9", x.who(4, 9, 3), 3);
        due("of one day the last told", x.who(4, 10, 3), 2);
        due("known by 1", x.who(4, 10, 1), 1);
        due("known by 0", x.who(4, 10, 0), -2);
        x.sits(2, 5, 12);
        due("still there", x.who(4, 11, 4), 2);
        due("gone", x.who(4, 12, 4), -2);
        due("not known by 3 to be gone", x.who(4, 12, 3), 2);
        due("there now", x.who(5, 12, 4), 2);
        x.sits(2, 4, 12);
        due("back on the same day", x.who(4, 12, 5), 2);
        due("so gone there", x.who(5, 12, 5), -2);
        x.sits(2, 6, 11);
        due("told later, of an earlier day", x.who(4, 12, 6), 2);
        due("on that day", x.who(4, 11, 6), -2);
        due("on that day there", x.who(6, 11, 6), 2);
        due("seat 10", x.who(10, 0, 0), -1);
        due("seat -1", x.who(-1, 0, 0), -1);
        due("day 100", x.who(0, 100, 0), -1);
        due("day -1", x.who(0, -1, 0), -1);
        due("n -1", x.who(0, 0, -1), -1);
        due("n beyond", x.who(0, 0, 7), -1);
    }

    private static void holds(String condition, boolean want) {
        SaidRecord x = with("leave a if " + condition + ";");
        x.line(3, 20, 0, 0, 50);
        due(condition, x.printed(0, 3, 1, 2), want ? 0 : -2);
    }

    private static void conditions() {
        CHECK.part("17 printed, conditions");
        holds("1==1", true);
        holds("1==2", false);
        holds("1!=1", false);
        holds("1!=2", true);
        holds("1<1", false);
        holds("1<2", true);
        holds("1<=1", true);
        holds("2<=1", false);
        holds("0-1<0", true);
        holds("not 1==1", false);
        holds("not not 1==1", true);
        holds("not not not 1==1", false);
        holds("not 1==2 and 1==1", true);
        holds("1==1 and 1==2", false);
        holds("1==2 and 1==1", false);
        holds("1==2 or 1==1", true);
        holds("1==1 or 1==2", true);
        holds("1==1 or 1==1 and 1==2", true);
        holds("1==2 and 1==1 or 1==1", true);
        holds("1==1 and 1==2 or 1==2 and 1==1", false);
        holds("not 1==1 or 1==2", false);
        holds("1/0==0", false);
        holds("0==1/0", false);
        holds("1/0!=0", false);
        holds("0*(1/(word-50))<=0", false);
        holds("not 1/0==0", true);
        holds("not not 1/0==0", false);
        holds("1/0==0 or 1==1", true);
        holds("1==1 and 1/0==0", false);
        holds("not 1/0==0 and 1==1", true);
        holds("1/0==0 or 0==0 and 2==2", true);
    }

    private static void right(String value, int want) {
        SaidRecord x = with("right a to " + value + ";");
        x.line(3, 20, 0, 0, 50);
        due(value, x.printed(0, 3, 1, 0), want);
        due(value + " by", x.printed(0, 3, 1, 3), 0);
    }

    private static void arithmetic() {
        CHECK.part("17 printed, arithmetic");
        right("7", 7);
        right("0", 0);
        right("999", 999);
        right("1000", 999);
        right("9999", 999);
        right("1-2", 0);
        right("10-2-3", 5);
        right("10-(2-3)", 11);
        right("2+3*4", 14);
        right("(2+3)*4", 20);
        right("2*3+4", 10);
        right("2+3*4-5*2", 4);
        right("100/10/5", 2);
        right("100/(10/5)", 50);
        right("100/3*3", 99);
        right("7/2", 3);
        right("10+(0-7)/2", 7);
        right("10+7/(0-2)", 7);
        right("1+2*(3+4*(5-(6-(7-(8-9)))))", 1 + 2 * (3 + 4 * (5 - (6 - (7 - (8 - 9))))));
        right("(1+2*(1+2*(1+2*(1+2*(1+2*(1+2*3))))))", 255);
        right("5+1/0", 0);
        right("(1/0)+5", 0);
        right("5/(word-50)+5", 0);
        right("9999*9999*100/9999/9999", 14);
        right("5000*5000*85", 999);
        right("5000*5000*86", 0);
        right("(5000*5000*86)/(0-5000*5000)", 85);
        // -2147483648 / -1 wraps to itself.
        right("(0-8192*8192*32)/(0-1)", 0);
        right("5+(8192*8192*32-(0-8192*8192*32))", 5);
        right("word+minute*2", 90);
    }

    private static void printedPutRight() {
        CHECK.part("17 printed, put right");
        SaidRecord x = with("mend m if 1==2; right a to 11 if word==1; right b to 22 if word<5;"
                + "right c to word if 5<=word and word<9;");
        Check.read(x, "from 5; strike a;");
        x.line(4, 0, 0, 0, 1);
        x.line(5, 0, 0, 0, 1);
        x.line(4, 0, 0, 0, 6);
        x.line(4, 0, 0, 0, 9);
        x.line(4, 0, 3, 0, 0);
        due("the first that holds", x.printed(0, 4, 5, 0), 11);
        due("its k", x.printed(0, 4, 5, 3), 1);
        due("rules of the line's day", x.printed(0, 9, 5, 0), 11);
        due("its k", x.printed(0, 9, 5, 3), 1);
        due("of another day", x.printed(1, 5, 5, 0), 22);
        due("its k", x.printed(1, 5, 5, 3), 1);
        due("the same word", x.printed(2, 4, 5, 0), 6);
        due("its k", x.printed(2, 4, 5, 3), 3);
        due("none holds", x.printed(3, 4, 5, 0), 9);
        due("its k", x.printed(3, 4, 5, 3), -2);
        due("noise too", x.printed(4, 4, 5, 0), 22);
    }

    private static void variables() {
        CHECK.part("17 printed, variables");
        SaidRecord x = with("right w to word+1 if minute==1; right s to 100+sort if minute==2;"
                + "right m to 100+minute if minute==3; right e to 100+member if minute==4;"
                + "right d to 100+days if minute==5; right t to 100+times if minute==6;"
                + "right h to 100+heard if minute==7; right n to 100+next if minute==8;"
                + "right l to 100+lines if minute==9; right a to 100+was if minute==10;");
        x.sits(6, 3, 0);
        for (int minute = 1; minute <= 10; minute++) {
            x.line(7, minute, minute == 2 ? 2 : 0, minute == 4 ? 3 : 2, 40);
        }
        x.line(7, 0, 3, 2, 0);
        x.line(8, 0, 3, 2, 0);
        x.fact(1, 7, 55, 0);
        x.fact(1, 7, 56, 0);
        x.fact(1, 6, 57, 0);
        int n = x.count(0);
        due("word", x.printed(1, 9, n, 0), 41);
        due("sort", x.printed(2, 9, n, 0), 102);
        due("minute", x.printed(3, 9, n, 0), 103);
        due("member", x.printed(4, 9, n, 0), 107);
        due("who", x.printed(4, 9, n, 5), 6);
        due("nobody", x.printed(3, 9, n, 5), -2);
        due("days", x.printed(5, 9, n, 0), 100);
        due("times", x.printed(6, 9, n, 0), 100);
        due("heard: the last", x.printed(7, 9, n, 0), 156);
        due("heard known before", x.printed(7, 9, n - 2, 0), 155);
        due("heard: none yet", x.printed(7, 9, n - 3, 0), 100);
        due("next", x.printed(8, 9, n, 0), 100);
        due("lines of its day and seat", x.printed(9, 9, n, 0), 110);
        due("lines known by 10", x.printed(9, 9, 10, 0), 108);
        due("was", x.printed(10, 9, n, 0), 140);
        SaidRecord y = with("right r to 60; mend m if was==50 and word==60+10*times and days==3"
                + " and next==70+10*times; leave l if days==4 and times==2 and next==0"
                + " and word==80 and was==50;");
        y.line(2, 0, 0, 0, 50);
        y.fact(0, 0, 70, 5);
        y.fact(0, 0, 80, 5);
        due("mends see words, days, times, next", y.printed(0, 5, 3, 0), 80);
        due("leave on 5", y.printed(0, 5, 3, 2), -2);
        due("leave on 6", y.printed(0, 6, 3, 2), 2);
        SaidRecord z = with("right r to 1+member*10+office;");
        z.office(0, 5);
        z.line(0, 0, 0, 0, 9);
        due("nobody's office", z.printed(1, 0, 2, 0), 1);
        z.sits(0, 0, 0);
        due("known by 2", z.printed(1, 0, 2, 0), 1);
        due("known by 3", z.printed(1, 0, 3, 0), 16);
        z.sits(0, 1, 0);
        due("gone", z.printed(1, 0, 4, 0), 1);
    }

    private static void printedMends() {
        CHECK.part("17 printed, mends");
        SaidRecord x = with("mend m if times<2; bar b if next==13;");
        x.line(4, 0, 0, 0, 1);
        x.fact(0, 0, 10, 3);
        x.fact(0, 0, 11, 6);
        x.fact(0, 0, 12, 5);
        x.fact(0, 0, 13, 4);
        x.fact(0, 0, 14, 6);
        int n = x.count(0);
        due("on 4", x.printed(0, 4, n, 0), 1);
        due("on 4, let", x.printed(0, 4, n, 4), 0);
        due("on 5", x.printed(0, 5, n, 0), 12);
        due("on 5, let", x.printed(0, 5, n, 4), 1);
        due("on 6 by numbers, the third is not let", x.printed(0, 6, n, 0), 12);
        due("on 6, let", x.printed(0, 6, n, 4), 2);
        due("known by 3", x.printed(0, 6, 3, 0), 11);
        due("known by 1", x.printed(0, 6, 1, 0), 1);
        x.fact(2, 0, 0, 6);
        due("struck on 6: the mend of 6 is not let", x.printed(0, 6, n + 1, 4), 1);
        due("beneath", x.printed(0, 6, n + 1, 0), 12);
        due("known by n not yet", x.printed(0, 6, n, 4), 2);
        x.line(4, 0, 0, 0, 2);
        due("another line", x.printed(n + 1, 9, n + 2, 0), 2);
        SaidRecord y = with("from 5; mend m if 1==1;");
        Check.read(y, "from 7; strike m;");
        y.line(0, 0, 0, 0, 1);
        y.fact(0, 0, 2, 4);
        y.fact(0, 0, 3, 6);
        y.fact(0, 0, 4, 7);
        due("rules of the mend's day", y.printed(0, 99, 4, 0), 3);
        due("let", y.printed(0, 99, 4, 4), 1);
    }

    private static void printedStruckAndLeft() {
        CHECK.part("17 printed, struck and left out");
        SaidRecord x = with("leave a if word==2; leave b if sort==3; leave c if word<=2;");
        Check.read(x, "from 6; strike a;");
        x.line(5, 0, 0, 0, 2);
        x.line(5, 0, 3, 0, 0);
        x.line(5, 0, 0, 0, 3);
        x.fact(2, 2, 0, 7);
        x.fact(2, 0, 0, 2);
        due("left by the first", x.printed(0, 5, 3, 2), 0);
        due("rules of the day asked", x.printed(0, 6, 3, 2), 1);
        due("noise", x.printed(1, 5, 3, 2), 1);
        due("none", x.printed(2, 5, 3, 2), -2);
        due("not struck yet", x.printed(2, 6, 4, 1), 0);
        due("struck", x.printed(2, 7, 4, 1), 1);
        due("struck later", x.printed(2, 8, 4, 1), 1);
        due("the word beneath", x.printed(2, 8, 4, 0), 3);
        due("not known", x.printed(2, 8, 3, 1), 0);
        due("struck ahead of its day", x.printed(0, 5, 5, 1), 1);
        due("left out and struck", x.printed(0, 5, 5, 2), 0);
        due("beneath", x.printed(0, 5, 5, 0), 2);
    }

    private static void printedWrong() {
        CHECK.part("17 printed, wrong");
        SaidRecord x = new SaidRecord();
        x.line(5, 0, 0, 0, 2);
        x.sits(0, 0, 0);
        due("right", x.printed(0, 5, 1, 0), 2);
        due("line -1", x.printed(-1, 5, 2, 0), -1);
        due("line 2", x.printed(2, 5, 2, 0), -1);
        due("no line", x.printed(1, 5, 2, 0), -1);
        due("not known", x.printed(0, 5, 0, 0), -1);
        due("n -1", x.printed(0, 5, -1, 0), -1);
        due("n beyond", x.printed(0, 5, 3, 0), -1);
        due("ahead", x.printed(0, 4, 2, 0), -1);
        due("day 100", x.printed(0, 100, 2, 0), -1);
        due("what 6", x.printed(0, 5, 2, 6), -1);
        due("what -1", x.printed(0, 5, 2, -1), -1);
    }

    private static void mended() {
        CHECK.part("18 mended");
        SaidRecord x = with("bar early if days==0; mend m if times==0; bar b if next==13;"
                + "bar c if next<=13 and 13<=next;");
        x.line(4, 0, 0, 0, 1);
        x.fact(0, 0, 10, 8);
        x.fact(0, 0, 11, 6);
        x.fact(0, 0, 12, 7);
        x.fact(0, 0, 13, 5);
        x.fact(0, 0, 14, 3);
        x.fact(0, 0, 13, 9);
        int n = x.count(0);
        due("let, the one of day 8 by itself", x.mended(1, n), 0);
        due("let on 6, that of day 8 is behind", x.mended(2, n), 0);
        due("a second one is not", x.mended(3, n), 3);
        due("barred", x.mended(4, n), 4);
        due("ahead", x.mended(5, n), 1);
        due("no mend rule comes before a bar", x.mended(6, n), 3);
        x.fact(2, 0, 0, 7);
        due("struck by then", x.mended(3, n + 1), 2);
        due("struck by then", x.mended(1, n + 1), 2);
        due("struck before", x.mended(2, n + 1), 0);
        due("known by n", x.mended(1, n), 0);
        x.fact(2, 0, 0, 0);
        due("ahead comes before struck", x.mended(5, n + 2), 1);
        due("struck comes before bar", x.mended(4, n + 2), 2);
        due("no mend", x.mended(0, n), -1);
        due("not known", x.mended(1, 1), -1);
        due("known", x.mended(1, 2), 0);
        due("-1", x.mended(-1, n), -1);
        due("beyond", x.mended(n + 2, n + 2), -1);
        due("struck is none", x.mended(n, n + 2), -1);
        due("n beyond", x.mended(1, n + 3), -1);
        due("n -1", x.mended(1, -1), -1);
    }

    private static void bar() {
        CHECK.part("19 bar");
        SaidRecord x = with("mend m if next!=15; bar b if next==13; bar c if 12<next;");
        Check.read(x, "from 9; strike m; strike b; mend m if 1==1;");
        x.line(4, 0, 0, 0, 1);
        x.fact(0, 0, 12, 5);
        x.fact(0, 0, 13, 5);
        x.fact(0, 0, 14, 5);
        x.fact(0, 0, 15, 5);
        x.fact(0, 0, 13, 9);
        due("let", x.bar(1, 6), -1);
        due("the first", x.bar(2, 6), 1);
        due("the second", x.bar(3, 6), 2);
        due("no mend rule", x.bar(4, 6), -1);
        due("of its day", x.bar(5, 6), 0);
        due("no mend", x.bar(0, 6), -1);
        due("not known", x.bar(2, 2), -1);
        due("n beyond", x.bar(2, 7), -1);
    }

    private static void linesAndAt() {
        CHECK.part("20 lines, 21 at");
        SaidRecord x = with("leave a if word==5 and days<2;");
        x.line(4, 30, 0, 0, 1);
        x.line(4, 10, 0, 0, 2);
        x.line(3, 20, 0, 0, 3);
        x.line(4, 30, 2, 1, 4);
        x.line(4, 0, 0, 0, 5);
        x.line(4, 10, 3, 0, 0);
        x.fact(2, 1, 0, 4);
        int n = x.count(0);
        int[] due = {1, 5, 0, 3};
        due("lines(4, 4)", x.lines(4, 4, n), 4);
        for (int k = 0; k < due.length; k++) {
            due("at(4, 4) " + k, x.at(4, 4, n, k), due[k]);
        }
        due("at(4, 4) 4", x.at(4, 4, n, 4), -1);
        due("at(4, 4) -1", x.at(4, 4, n, -1), -1);
        due("lines(4, 6)", x.lines(4, 6, n), 5);
        due("at(4, 6) 0", x.at(4, 6, n, 0), 4);
        due("lines(3, 4)", x.lines(3, 4, n), 1);
        due("lines(5, 5)", x.lines(5, 5, n), 0);
        due("known by 2", x.lines(4, 4, 2), 2);
        due("known by 1", x.at(4, 4, 1, 0), 0);
        due("ahead", x.lines(4, 3, n), -1);
        due("ahead", x.at(4, 3, n, 0), -1);
        due("day 100", x.lines(100, 100, n), -1);
        due("day -1", x.lines(-1, 0, n), -1);
        due("d 100", x.lines(4, 100, n), -1);
        due("d 99", x.lines(4, 99, n), 5);
        due("n beyond", x.lines(4, 4, n + 1), -1);
        due("n -1", x.lines(4, 4, -1), -1);
        due("at, n beyond", x.at(4, 4, n + 1, 0), -1);
        due("at, day -1", x.at(-1, 4, n, 0), -1);
    }

    private static void court() {
        CHECK.part("22 court");
        SaidRecord x = with("mend m if 1==1; court a if days==9; court b if word==7 and times==1"
                + " and days==1 and next==0; leave l if word==7;");
        Check.read(x, "from 6; strike a;");
        x.line(4, 0, 0, 0, 1);
        x.fact(0, 0, 7, 5);
        x.fact(3, 0, 0, 5);
        x.fact(0, 0, 8, 5);
        x.fact(3, 0, 0, 6);
        x.fact(2, 0, 0, 5);
        x.fact(3, 0, 0, 5);
        int n = x.count(0);
        due("shown, left out or not", x.court(2, n, 0), 7);
        due("kept", x.court(2, n, 1), 2);
        due("as known by 4", x.court(2, 4, 2), 8);
        due("as known by n", x.court(2, n, 2), 0);
        due("as known by 3", x.court(2, 3, 2), 7);
        due("the other", x.court(4, n, 0), 8);
        due("not kept", x.court(4, n, 1), -2);
        due("struck", x.court(6, n, 0), 0);
        due("struck", x.court(6, n, 2), 0);
        due("not kept", x.court(6, n, 1), -2);
        due("what 3", x.court(2, n, 3), -1);
        due("what -1", x.court(2, n, -1), -1);
        due("no court", x.court(1, n, 0), -1);
        due("not known", x.court(2, 2, 0), -1);
        due("n beyond", x.court(2, n + 1, 0), -1);
        due("-1", x.court(-1, n, 0), -1);
        SaidRecord y = with("court a if heard==3;");
        y.line(0, 0, 0, 0, 1);
        y.fact(3, 0, 0, 0);
        y.fact(1, 0, 3, 0);
        y.fact(3, 0, 0, 0);
        y.fact(2, 0, 0, 1);
        y.fact(3, 0, 0, 1);
        due("known by its number", y.court(1, 6, 1), -2);
        due("known by its number", y.court(3, 6, 1), 0);
        due("a struck line is kept too", y.court(5, 6, 1), 0);
    }

    private static void take() {
        CHECK.part("23 take");
        SaidRecord x = new SaidRecord();
        for (int w = 0; w < 3; w++) {
            for (int i = 1; i <= 12; i++) {
                due("take(" + w + ") " + i, x.take(w, 987 + i), i);
            }
            due("take(" + w + ") 13", x.take(w, 1), -1);
        }
        x.clear();
        due("row 3", x.take(3, 1), -1);
        due("row -1", x.take(-1, 1), -1);
        due("0 in FIRST", x.take(0, 0), -1);
        due("0 in SECOND", x.take(1, 0), -1);
        due("0 in the TAPE", x.take(2, 0), 1);
        due("1000", x.take(2, 1000), -1);
        due("-1", x.take(2, -1), -1);
        due("count(3)", x.count(3), 0);
        due("count(4)", x.count(4), 0);
        due("count(5)", x.count(5), 1);
    }

    private static void clear() {
        CHECK.part("24 clear");
        SaidRecord x = new SaidRecord();
        x.line(0, 0, 0, 0, 1);
        takeAll(x, new int[] {1, 2}, new int[] {3}, new int[] {4, 5, 6});
        x.clear();
        due("count(3)", x.count(3), 0);
        due("count(4)", x.count(4), 0);
        due("count(5)", x.count(5), 0);
        due("count(0)", x.count(0), 1);
        due("joined(0)", x.joined(0), -1);
        due("take again", x.take(0, 9), 1);
        due("joined(0)", x.joined(0), 9);
    }

    private static void takeAll(SaidRecord x, int[] first, int[] second, int[] tape) {
        x.clear();
        for (int word : first) {
            x.take(0, word);
        }
        for (int word : second) {
            x.take(1, word);
        }
        for (int word : tape) {
            x.take(2, word);
        }
    }

    private static void join(SaidRecord x, int k, int... words) {
        due("join()", x.join(), k);
        for (int i = 0; i < words.length; i++) {
            due("joined(" + i + ")", x.joined(i), words[i]);
        }
        due("joined(" + words.length + ")", x.joined(words.length), -1);
        due("joined(-1)", x.joined(-1), -1);
        due("joined(MAX)", x.joined(Integer.MAX_VALUE), -1);
    }

    private static void joinAndJoined() {
        CHECK.part("25 join, 26 joined");
        SaidRecord x = new SaidRecord();
        join(x, 0);
        takeAll(x, new int[] {1, 2}, new int[] {}, new int[] {});
        join(x, 0, 1, 2);
        takeAll(x, new int[] {}, new int[] {1, 2}, new int[] {});
        join(x, 0, 1, 2);
        takeAll(x, new int[] {1, 2}, new int[] {2, 1}, new int[] {1, 1});
        join(x, 1, 1, 2, 1);
        takeAll(x, new int[] {1, 2}, new int[] {3, 2}, new int[] {});
        join(x, 0, 1, 2, 3, 2);
        takeAll(x, new int[] {1, 2, 3}, new int[] {1, 9, 3}, new int[] {});
        join(x, 3, 1, 2, 3);
        takeAll(x, new int[] {1, 2, 3}, new int[] {1, 9, 3}, new int[] {9});
        join(x, 3, 1, 9, 3);
        takeAll(x, new int[] {1, 2, 3}, new int[] {1, 9, 3}, new int[] {9, 2, 9, 2});
        join(x, 3, 1, 2, 3);
        takeAll(x, new int[] {1, 2, 3}, new int[] {1, 9, 3}, new int[] {9, 2, 9, 2, 9});
        join(x, 3, 1, 9, 3);
        takeAll(x, new int[] {1, 2, 3}, new int[] {9, 2, 8}, new int[] {});
        join(x, 0, 1, 2, 3, 9, 2, 8);
        takeAll(x, new int[] {7, 1, 2, 3, 4, 5, 6}, new int[] {1, 9, 3, 8, 5, 6, 7},
                new int[] {9, 8, 4, 4});
        join(x, 6, 7, 1, 9, 3, 4, 5, 6, 7);
        takeAll(x, new int[] {1, 1, 1, 1, 1}, new int[] {1, 1, 1}, new int[] {});
        join(x, 3, 1, 1, 1, 1, 1);
        takeAll(x, new int[] {1, 2, 3, 4, 5, 6, 7, 8, 9, 10, 11, 12},
                new int[] {21, 22, 23, 24, 5, 6, 7, 8, 9, 10, 11, 12}, new int[] {24, 22});
        join(x, 12, 1, 22, 3, 24, 5, 6, 7, 8, 9, 10, 11, 12);
        takeAll(x, new int[] {1, 2, 3, 4, 5, 6, 7, 8, 9, 10, 11, 12},
                new int[] {13, 14, 15, 16, 17, 18, 19, 20, 21, 22, 23, 24}, new int[] {});
        due("join()", x.join(), 0);
        due("joined(23)", x.joined(23), 24);
        due("joined(24)", x.joined(24), -1);
    }

    private static void apart() {
        CHECK.part("27 apart");
        SaidRecord x = new SaidRecord();
        takeAll(x, new int[] {11, 9, 20, 20, 5, 14}, new int[] {19, 9, 20, 20, 9, 14, 7},
                new int[] {});
        due("kitten", x.apart(0, 1), 3);
        due("sitting", x.apart(1, 0), 3);
        due("to nothing", x.apart(0, 2), 6);
        due("from nothing", x.apart(2, 1), 7);
        due("itself", x.apart(1, 1), 0);
        due("row 3", x.apart(0, 3), -1);
        due("row -1", x.apart(-1, 0), -1);
        due("row 3 first", x.apart(3, 0), -1);
        due("row -1 behind", x.apart(0, -1), -1);
        takeAll(x, new int[] {1, 2, 3, 4, 5, 6, 7, 8, 9, 10, 11, 12},
                new int[] {2, 3, 4, 5, 6, 7, 8, 9, 10, 11, 12, 1}, new int[] {1, 12});
        due("put in and taken out", x.apart(0, 1), 2);
        due("ten taken out", x.apart(0, 2), 10);
    }

    private static void sumAndDoubles() {
        CHECK.part("28 sum, 29 doubles");
        SaidRecord x = new SaidRecord();
        x.vote(1, 0, 0, 0);
        x.vote(1, 0, 0, 1);
        x.vote(1, 7, 0, 0);
        x.vote(1, 3, 1, 0);
        x.vote(1, 7, 1, 0);
        x.vote(2, 0, 1, 0);
        x.vote(1, 3, 0, 1);
        due("ayes by 3", x.sum(1, 0, 3), 2);
        due("noes by 3", x.sum(1, 1, 3), 0);
        due("noes by 4", x.sum(1, 1, 4), 1);
        due("ayes by 5", x.sum(1, 0, 5), 1);
        due("noes by 7", x.sum(1, 1, 7), 0);
        due("ayes by 7", x.sum(1, 0, 7), 1);
        due("division 2", x.sum(2, 1, 7), 1);
        due("doubles by 4", x.doubles(1, 4), 0);
        due("doubles by 5", x.doubles(1, 5), 128);
        due("doubles by 7", x.doubles(1, 7), 136);
        due("doubles of 2", x.doubles(2, 7), 0);
        due("division 4", x.sum(4, 0, 0), -1);
        due("division -1", x.sum(-1, 0, 0), -1);
        due("side 2", x.sum(0, 2, 0), -1);
        due("side -1", x.sum(0, -1, 0), -1);
        due("n beyond", x.sum(0, 0, 8), -1);
        due("n -1", x.sum(0, 0, -1), -1);
        due("doubles, division 4", x.doubles(4, 0), -1);
        due("doubles, division -1", x.doubles(-1, 0), -1);
        due("doubles, n beyond", x.doubles(0, 8), -1);
        due("doubles, n -1", x.doubles(0, -1), -1);
    }

    private static void moved() {
        CHECK.part("30 moved");
        SaidRecord x = new SaidRecord();
        x.vote(0, 0, 1, 0);
        x.sits(0, 0, 0);
        x.vote(0, 1, 0, 0);
        x.vote(0, 2, 0, 0);
        x.vote(1, 2, 1, 0);
        x.vote(0, 3, 0, 0);
        x.vote(0, 4, 1, 0);
        x.vote(0, 5, 1, 0);
        x.vote(0, 5, 0, 1);
        due("noes first", x.moved(0, 1), -2);
        due("as many", x.moved(0, 3), -2);
        due("carried", x.moved(0, 4), 3);
        due("more", x.moved(0, 6), 3);
        due("still carried", x.moved(0, 7), 3);
        due("as many again", x.moved(0, 8), 7);
        due("a double one", x.moved(0, 9), 8);
        due("another division", x.moved(1, 9), -2);
        due("division 4", x.moved(4, 0), -1);
        due("division -1", x.moved(-1, 0), -1);
        due("n beyond", x.moved(0, 10), -1);
        due("n -1", x.moved(0, -1), -1);
    }

    private static void reporter() {
        CHECK.part("31 reporter");
        SaidRecord x = new SaidRecord();
        due("reporter(0, 1, 0)", x.reporter(0, 1, 0), true);
        due("reporter(3, 6, 255)", x.reporter(3, 6, 255), true);
        due("k 4", x.reporter(4, 1, 0), false);
        due("k -1", x.reporter(-1, 1, 0), false);
        due("speed 0", x.reporter(0, 0, 0), false);
        due("speed 7", x.reporter(0, 7, 0), false);
        due("cant 256", x.reporter(0, 1, 256), false);
        due("cant -1", x.reporter(0, 1, -1), false);
        due("nothing changed", x.roster(1, 1), 1);
        due("reporter(0, 6, 0)", x.reporter(0, 6, 0), true);
        due("roster(1, 1)", x.roster(1, 1), 6);
    }

    private static void rosterOf(SaidRecord x, int t, int m, int end, int... takers) {
        due("roster(" + t + ", " + m + ")", x.roster(t, m), end);
        for (int k = 0; k < takers.length; k++) {
            due("turn(" + k + ")", x.turn(k), takers[k]);
        }
        due("turn(" + takers.length + ")", x.turn(takers.length), -1);
    }

    private static void roster() {
        CHECK.part("32 roster");
        SaidRecord x = new SaidRecord();
        rosterOf(x, 8, 2, 8, 0, 1, 0, 1, 0, 1, 0, 1);
        rosterOf(x, 8, 4, 8, 0, 1, 0, 1, 0, 1, 0, 1);
        rosterOf(x, 8, 1, -2);
        x.reporter(0, 2, 0);
        x.reporter(1, 2, 0);
        rosterOf(x, 3, 2, -3);
        rosterOf(x, 3, 3, 3, 0, 1, 2);
        rosterOf(x, 4, 3, 4, 0, 2, 1, 2);
        x.reporter(2, 2, 0);
        rosterOf(x, 8, 3, 9, 0, 1, 2, 0, 1, 2, 0, 1);
        x.reporter(0, 6, 0);
        x.reporter(1, 1, 0b10);
        x.reporter(2, 6, 0);
        x.reporter(3, 1, 0b100);
        rosterOf(x, 2, 4, 2, 1, 3);
        rosterOf(x, 3, 4, 3, 1, 3, 1);
        x.reporter(1, 1, 0b110);
        rosterOf(x, 3, 4, 8, 0, 3, 2);
        x.reporter(0, 1, 255);
        rosterOf(x, 1, 1, -1);
        due("t 0", x.roster(0, 1), -100);
        due("t 9", x.roster(9, 1), -100);
        due("m 0", x.roster(1, 0), -100);
        due("m 5", x.roster(1, 5), -100);
        due("t -1", x.roster(-1, 1), -100);
        due("m -1", x.roster(1, -1), -100);
    }

    private static void turn() {
        CHECK.part("33 turn");
        SaidRecord x = new SaidRecord();
        due("none", x.turn(0), -1);
        x.roster(2, 2);
        due("turn(-1)", x.turn(-1), -1);
        due("turn(1)", x.turn(1), 1);
        due("turn(2)", x.turn(2), -1);
        x.reporter(0, 1, 255);
        x.roster(9, 9);
        due("remembered still", x.turn(0), 0);
        due("remembered still", x.turn(1), 1);
        x.roster(2, 2);
        due("none any more", x.turn(0), -1);
        due("none any more", x.turn(1), -1);
    }

    private static void namesAndFound() {
        CHECK.part("34 names, 35 found");
        SaidRecord x = with("right r to 30 if word==31; leave l if word==32 and days<2;");
        x.line(4, 30, 0, 0, 30);
        x.line(4, 10, 0, 0, 31);
        x.line(3, 20, 0, 0, 30);
        x.line(5, 1, 0, 1, 30);
        x.line(4, 5, 2, 0, 32);
        x.line(4, 10, 0, 0, 30);
        x.fact(2, 2, 0, 5);
        x.rename(32, 33, 5);
        x.rename(30, 33, 6);
        int n = x.count(0);
        found(x, 30, 3, n, 2);
        found(x, 30, 4, n, 2, 1, 5, 0);
        found(x, 30, 5, n, 1, 5, 0, 3);
        found(x, 32, 4, n);
        found(x, 33, 5, n);
        found(x, 32, 6, n, 4, 1, 5, 0, 3);
        found(x, 33, 6, n, 4, 1, 5, 0, 3);
        found(x, 30, 6, n, 4, 1, 5, 0, 3);
        found(x, 30, 6, n - 1, 1, 5, 0, 3);
        found(x, 33, 6, n - 1, 4);
        found(x, 30, 6, 3, 2, 1, 0);
        found(x, 31, 6, n);
        found(x, 30, 2, n);
        due("word 0", x.names(0, 0, 0), -1);
        due("word 1000", x.names(1000, 0, 0), -1);
        due("day 100", x.names(1, 100, 0), -1);
        due("day -1", x.names(1, -1, 0), -1);
        due("n beyond", x.names(1, 0, n + 1), -1);
        due("n -1", x.names(1, 0, -1), -1);
        due("found, word 0", x.found(0, 6, n, 0), -1);
        due("found, word 1000", x.found(1000, 6, n, 0), -1);
        due("found, day 100", x.found(30, 100, n, 0), -1);
        due("found, day -1", x.found(30, -1, n, 0), -1);
        due("found, n beyond", x.found(30, 6, n + 1, 0), -1);
        due("found, n -1", x.found(30, 6, -1, 0), -1);
    }

    private static void found(SaidRecord x, int word, int day, int n, int... lines) {
        String asked = "(" + word + ", " + day + ", " + n + ")";
        due("names" + asked, x.names(word, day, n), lines.length);
        for (int i = 0; i < lines.length; i++) {
            due("found" + asked + " " + i, x.found(word, day, n, i), lines[i]);
        }
        due("found" + asked + " beyond", x.found(word, day, n, lines.length), -1);
        due("found" + asked + " -1", x.found(word, day, n, -1), -1);
    }

    private static void same() {
        CHECK.part("36 same");
        SaidRecord x = new SaidRecord();
        x.rename(5, 6, 9);
        x.rename(4, 5, 8);
        x.rename(3, 4, 7);
        x.rename(2, 3, 6);
        due("on 9 through others", x.same(2, 6, 9, 4), 1);
        due("the other way", x.same(6, 2, 9, 4), 1);
        due("on 8", x.same(2, 6, 8, 4), 0);
        due("on 8 up to 5", x.same(2, 5, 8, 4), 1);
        due("known by 3", x.same(2, 6, 9, 3), 0);
        due("known by 3, from 3 on", x.same(3, 6, 9, 3), 1);
        due("itself", x.same(7, 7, 0, 0), 1);
        due("others", x.same(7, 8, 99, 4), 0);
        due("one 0", x.same(0, 1, 0, 0), -1);
        due("one 1000", x.same(1000, 1, 0, 0), -1);
        due("other 0", x.same(1, 0, 0, 0), -1);
        due("other 1000", x.same(1, 1000, 0, 0), -1);
        due("day 100", x.same(1, 1, 100, 0), -1);
        due("day -1", x.same(1, 1, -1, 0), -1);
        due("n beyond", x.same(1, 1, 0, 5), -1);
        due("n -1", x.same(1, 1, 0, -1), -1);
        SaidRecord y = new SaidRecord();
        for (int i = 0; i < 180; i++) {
            y.rename(180 - i, 181 - i, 0);
        }
        due("a long chain", y.same(1, 181, 0, 180), 1);
        due("a long chain", y.same(181, 1, 0, 180), 1);
        due("all but the last", y.same(1, 181, 0, 179), 0);
    }

    private static void count() {
        CHECK.part("37 count");
        SaidRecord x = new SaidRecord();
        x.line(0, 0, 0, 0, 1);
        x.vote(0, 0, 0, 0);
        x.read();
        x.feed(0, 0, 0, 0, 0);
        takeAll(x, new int[] {1}, new int[] {1, 2}, new int[] {0, 1, 2});
        int[] due = {2, 1, 20, 1, 2, 3};
        for (int what = 0; what < due.length; what++) {
            due("count(" + what + ")", x.count(what), due[what]);
        }
        due("count(6)", x.count(6), -1);
        due("count(-1)", x.count(-1), -1);
        due("count(MAX)", x.count(Integer.MAX_VALUE), -1);
        due("count(MIN)", x.count(Integer.MIN_VALUE), -1);
    }

    /** The rules are no facts: all of them count, whatever n is. */
    private static void knownBy() {
        CHECK.part("known by n");
        SaidRecord x = new SaidRecord();
        x.line(0, 0, 0, 0, 1);
        due("before the rule", x.printed(0, 0, 1, 0), 1);
        Check.read(x, "right a to 2;");
        due("behind it", x.printed(0, 0, 1, 0), 2);
        x.line(0, 0, 0, 0, 1);
        due("lines known by 1", x.lines(0, 0, 1), 1);
        due("lines known by 2", x.lines(0, 0, 2), 2);
    }
}
