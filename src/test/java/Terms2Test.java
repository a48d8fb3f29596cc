import java.util.List;

/**
 * The boundary sentences of part II of the document's Terms:
 * texts, tokens, faults, which rules are in force, ints.
 */
final class Terms2Test {
    private static final int NONE = SaidRecord.NONE;
    private static final List<String> QUOTED = List.of("from", "right", "to", "if", "mend", "bar",
            "leave", "court", "strike", "or", "and", "not", "word", "was", "paper", "sort",
            "minute", "member", "office", "days", "times", "heard", "next", "lines");
    /** The least int there is: 2 to the 31st, which wraps. */
    private static final String LEAST = "8192*8192*32";

    public static void main(String[] args) throws ReflectiveOperationException {
        Named.runAll(Terms2Test.class, "terms2_");
    }

    private static void due(String call, long got, long want) {
        Named.due(call, got, want);
    }

    // ---- texts and tokens

    static void terms2_textsAreNumberedAsTheyAreRead() {
        SaidRecord x = new SaidRecord();
        Check.read(x, "from 9;bar a if 1<2;");
        Check.read(x, "?");
        Check.read(x, "from 8;bar b if 1<2;");
        due("of day 8", x.rule(9, 0, 1), 1);
        due("of day 9", x.rule(9, 1, 1), 0);
    }

    private static boolean isBlank(int sign) {
        return sign == 9 || sign == 10 || sign == 13 || sign == 32;
    }

    private static boolean isLetter(int sign) {
        return sign >= 97 && sign <= 122;
    }

    static void terms2_blanksAlone() {
        for (int sign = 0; sign < 256; sign++) {
            Named.fault("" + (char) sign, isBlank(sign) ? 0 : 1, isBlank(sign) ? NONE : 0);
        }
    }

    static void terms2_blanksBetween() {
        for (int sign = 0; sign < 256; sign++) {
            int place = isBlank(sign) ? NONE : isLetter(sign) ? 0 : 6;
            Named.fault("strike" + (char) sign + "a;", isBlank(sign) ? 0 : 1, place);
        }
    }

    static void terms2_lettersOfNames() {
        for (int sign = 0; sign < 256; sign++) {
            boolean good = isBlank(sign) || isLetter(sign);
            Named.fault("strike a" + (char) sign + ";", good ? 0 : 1,
                    good ? NONE : sign == ';' ? 9 : 8);
        }
    }

    static void terms2_blanksOrNot() {
        Named.whole("from5;right a to(1)if(word)<=1and 2<3or not 1==2;strike b;");
        Named.whole(" from 5 ; right a to ( 1 ) if ( word ) <= 1 and 2 < 3 or not 1 == 2 ; ");
        Named.whole("\tfrom\n5\r;\t\n\r ");
        Named.fault("from 5;righta to 1;", 1, 7);
        Named.fault("right ato 1;", 1, 10);
        Named.fault("right a to 1 ifword<2;", 1, 13);
    }

    static void terms2_namesOf8Letters() {
        Named.whole("strike a;");
        Named.whole("strike zzzzzzzz;");
        Named.fault("strike zzzzzzzzz;", 1, 7);
        Named.fault("strike abcdefgha;", 1, 7);
        Named.fault("strike " + "a".repeat(900) + ";", 1, 7);
        Named.fault("bar abcdefghi if 1<2;", 1, 4);
    }

    static void terms2_theLongestThatCanBe() {
        Named.fault("strikea;", 1, 0);
        Named.fault("strike abcdefgh i;", 1, 16);
        Named.fault("bar a if 12345<1;", 1, 9);
        Named.fault("bar a if 1234 5<1;", 1, 14);
        Named.fault("bar a if words<1;", 1, 9);
        Named.whole("bar a if 1<=1;");
        Named.fault("bar a if 1< =1;", 1, 12);
        Named.fault("bar a if 1<==1;", 1, 12);
        Named.fault("bar a if 1===1;", 1, 12);
        Named.fault("bar a if 1!==1;", 1, 12);
        Named.fault("bar a if 1= =1;", 1, 10);
        Named.fault("bar a if 1! =1;", 1, 10);
    }

    /** A longer one is none at its first byte, whatever an earlier text had in its place. */
    private static void longerBehind(String earlier, String longer, int place) {
        SaidRecord x = Named.with(earlier);
        due("read of " + longer, Check.read(x, longer), 1);
        due("place of " + longer + " behind " + earlier, x.place(), place);
        due("texts", x.count(1), 1);
    }

    static void terms2_aLongerOneIsNoToken() {
        Named.fault("abcdefghi", 1, 0);
        Named.fault("strikestrike a;", 1, 0);
        Named.fault("12345", 1, 0);
        longerBehind("strike abcdefgh;", "strike abcdefghi;", 7);
        longerBehind("strike a;strike b;", "strike a;strikestrike b;", 9);
        longerBehind("from 5;", "from 00005;", 5);
        longerBehind("bar a if 1<1234;", "bar a if 1<12345;", 11);
        longerBehind("bar a if word<1;", "bar a if minuteminute<1;", 9);
    }

    static void terms2_namesAreNoneOfTheWordsInQuotes() {
        for (String word : QUOTED) {
            Named.fault("strike " + word + ";", 1, 7);
            Named.whole("strike " + word + "x;");
            Named.whole("strike x" + word + ";");
            Named.whole("strike " + word.substring(1) + "q;");
        }
        Named.whole("strike e;");
        Named.whole("strike text;");
        Named.whole("strike rule;");
    }

    static void terms2_namesAreTheSameByAllLetters() {
        SaidRecord x = Named.with("bar abcdefgh if 1<2;bar abcdefgi if 1<2;bar bbcdefgh if 1<2;"
                + "bar a if 1<2;bar aa if 1<2;bar aaaaaaaa if 1<2;bar zzzzzzzz if 1<2;"
                + "bar zzzzzzzy if 1<2;");
        due("eight rules", x.rules(0), 8);
        due("strikes", Check.read(x, "strike zzzzzzzz;strike a;strike abcdefgi;"), 0);
        due("five", x.rules(0), 5);
        int[] numbers = {0, 2, 4, 5, 7};
        for (int k = 0; k < 5; k++) {
            due("number", x.rule(0, k, 2), numbers[k]);
        }
    }

    /** For each letter names of it alone, of one, two and eight. */
    static void terms2_namesOfOneLetterManyTimes() {
        SaidRecord x = new SaidRecord();
        StringBuilder text = new StringBuilder();
        for (int i = 0; i < 78; i++) {
            int letters = i % 3 == 2 ? 8 : 1 + i % 3;
            String name = String.valueOf((char) ('a' + i / 3)).repeat(letters);
            text.append("bar ").append(name).append(" if 1<2;");
            if (i % 24 == 23 || i == 77) {
                due("a text", Check.read(x, text.toString()), 0);
                text.setLength(0);
            }
        }
        due("all are others", x.rules(0), 78);
    }

    static void terms2_intsOf4Digits() {
        Named.whole("right a to 0;");
        Named.whole("right a to 9999;");
        Named.whole("right a to 0000;");
        Named.fault("right a to 10000;", 1, 11);
        Named.fault("right a to 00000;", 1, 11);
        Named.fault("right a to " + "0".repeat(1000) + ";", 1, 11);
        Named.fault("from 00001;", 1, 5);
        Named.holds("9999==9998+1", true);
        Named.holds("0012==12", true);
        Named.holds("1000<9999", true);
    }

    static void terms2_signs() {
        for (String sign : new String[] {"+", "-", "*", "/"}) {
            Named.whole("right a to 1" + sign + "1;");
        }
        for (String sign : new String[] {"==", "!=", "<", "<="}) {
            Named.whole("bar a if 1" + sign + "1;");
        }
        for (String sign : List.of("=", "!", ">", ">=", "=<", "<>", "%", "^", "&", "|", ":")) {
            boolean begins = sign.equals("<>");
            Named.fault("bar a if 1" + sign + "1;", 1, begins ? 11 : 10);
        }
    }

    /** What is no token is a fault only where it stands first by its place. */
    static void terms2_noTokenBehindAFault() {
        Named.fault("strike if ?;", 1, 7);
        Named.fault("strike a; ?", 1, 10);
        Named.fault("? strike if;", 1, 0);
    }

    // ---- the grammar

    static void terms2_textBegins() {
        Named.whole("");
        Named.whole("from 5;");
        Named.fault("from 5;from 5;", 1, 7);
        Named.fault("strike a;from 5;", 1, 9);
        Named.fault("from word;", 1, 5);
        Named.fault("from -5;", 1, 5);
        Named.fault("from 5", 1, 6);
        Named.fault("from 5 5;", 1, 7);
        Named.fault(";", 1, 0);
        for (String word : QUOTED) {
            boolean first = List.of("from", "right", "mend", "bar", "leave", "court", "strike")
                    .contains(word);
            Named.fault(word, 1, first ? word.length() : 0);
        }
    }

    static void terms2_rulesOfEachSort() {
        for (String sort : new String[] {"mend", "bar", "leave", "court"}) {
            Named.whole(sort + " a if 1<2;");
            Named.fault(sort + " a;", 1, sort.length() + 2);
            Named.fault(sort + " a to 1;", 1, sort.length() + 3);
            Named.fault(sort + " if 1<2;", 1, sort.length() + 1);
            Named.fault(sort + " a if;", 1, sort.length() + 5);
            Named.fault(sort + " a if 1<2", 1, sort.length() + 9);
        }
        Named.whole("right a to 1;");
        Named.whole("right a to 1 if 1<2;");
        Named.fault("right a;", 1, 7);
        Named.fault("right a if 1<2;", 1, 8);
        Named.fault("right a to;", 1, 10);
        Named.fault("right a to 1 if;", 1, 15);
        Named.fault("right a to 1 if 1<2 if 1<2;", 1, 20);
        Named.fault("right a to 1 to 1;", 1, 13);
        Named.whole("strike a;");
        Named.fault("strike;", 1, 6);
        Named.fault("strike a if 1<2;", 1, 9);
        Named.fault("strike a to 1;", 1, 9);
    }

    static void terms2_conditions() {
        Named.whole("bar a if 1<2 or 1<2 and 1<2 or not 1<2;");
        Named.fault("bar a if 1;", 1, 10);
        Named.fault("bar a if 1<;", 1, 11);
        Named.fault("bar a if <1;", 1, 9);
        Named.fault("bar a if 1<2<3;", 1, 12);
        Named.fault("bar a if 1<2 and;", 1, 16);
        Named.fault("bar a if or 1<2;", 1, 9);
        Named.fault("bar a if (1<2);", 1, 11);
        Named.fault("bar a if not;", 1, 12);
        Named.fault("bar a if not (1<2);", 1, 15);
        Named.fault("bar a if (not 1<2);", 1, 10);
        Named.fault("bar a if 1<2 not 1<2;", 1, 13);
        Named.fault("bar a if 1<not 2;", 1, 11);
    }

    static void terms2_expressions() {
        Named.whole("right a to ((1)+(word*2))/3-was;");
        Named.fault("right a to -1;", 1, 11);
        Named.fault("right a to +1;", 1, 11);
        Named.fault("right a to 1+;", 1, 13);
        Named.fault("right a to 1 2;", 1, 13);
        Named.fault("right a to ();", 1, 12);
        Named.fault("right a to (1;", 1, 13);
        Named.fault("right a to 1);", 1, 12);
        Named.fault("right a to (1));", 1, 14);
        Named.fault("right a to (1)(2);", 1, 14);
        Named.fault("right a to 1*/2;", 1, 13);
        Named.fault("right a to other;", 1, 11);
        Named.fault("right a to (1 if 1<2;", 1, 14);
        Named.fault("bar a if (1<2;", 1, 11);
        Named.fault("bar a if 1<(2;", 1, 13);
        Named.fault("bar a if 1<2);", 1, 12);
    }

    /** One token of each kind, by which a text may go on or not. */
    private static final List<String> TOKENS = List.of("from", "right", "to", "if", "mend", "bar",
            "leave", "court", "strike", "or", "and", "not", "word", "was", "paper", "sort",
            "minute", "member", "office", "days", "times", "heard", "next", "lines", "name", "7",
            ";", "+", "-", "*", "/", "==", "!=", "<", "<=", "(", ")");
    private static final String UNIT =
            " 7 ( word was paper sort minute member office days times heard next lines ";
    private static final String RULE = " right mend bar leave court strike ";
    private static final String SIGN = " + - * / ";

    /** With which tokens a text goes on behind its beginning, and with which it does not. */
    private static void goesOn(String beginning, String with) {
        for (String token : TOKENS) {
            String text = beginning + " " + token;
            SaidRecord x = new SaidRecord();
            int fault = Check.read(x, text);
            boolean stops = fault == 1 && x.place() == beginning.length() + 1;
            due(text, stops ? 0 : 1, with.contains(" " + token + " ") ? 1 : 0);
            due("fault of " + text, fault, stops || x.place() == text.length() ? 1 : 0);
        }
    }

    static void terms2_withWhichTokensATextGoesOn() {
        goesOn("", RULE + " from ");
        goesOn("from", " 7 ");
        goesOn("from 5", " ; ");
        goesOn("from 5;", RULE);
        goesOn("strike a;", RULE);
        for (String sort : List.of("right", "mend", "bar", "leave", "court", "strike")) {
            goesOn(sort, " name ");
        }
        goesOn("right a", " to ");
        goesOn("strike a", " ; ");
        for (String sort : List.of("mend", "bar", "leave", "court")) {
            goesOn(sort + " a", " if ");
        }
        goesOn("right a to", UNIT);
        goesOn("right a to 1", SIGN + " if ; ");
        goesOn("right a to word", SIGN + " if ; ");
        goesOn("right a to (", UNIT);
        goesOn("right a to (1", SIGN + " ) ");
        goesOn("right a to ((1)", SIGN + " ) ");
        goesOn("right a to (1)", SIGN + " if ; ");
        for (String sign : List.of("+", "-", "*", "/")) {
            goesOn("right a to 1" + sign, UNIT);
            goesOn("right a to 1" + sign + "2", SIGN + " if ; ");
        }
    }

    static void terms2_withWhichTokensAConditionGoesOn() {
        for (String begun : List.of("right a to 1 if", "bar a if", "bar a if 1<2 and",
                "bar a if 1<2 or", "bar a if not", "bar a if not not")) {
            goesOn(begun, UNIT + " not ");
            goesOn(begun + " 1", SIGN + " == != < <= ");
            goesOn(begun + " (1", SIGN + " ) ");
            goesOn(begun + " (1)", SIGN + " == != < <= ");
            for (String compare : List.of("==", "!=", "<", "<=")) {
                goesOn(begun + " 1" + compare, UNIT);
                goesOn(begun + " 1" + compare + "2", SIGN + " and or ; ");
                goesOn(begun + " 1" + compare + "(2", SIGN + " ) ");
                goesOn(begun + " 1" + compare + "(2)", SIGN + " and or ; ");
                goesOn(begun + " 1" + compare + "2*", UNIT);
            }
        }
    }

    // ---- faults

    /** A rule of so many tokens, five at least, an odd number; it ends with its last byte. */
    private static String ruleOf(int tokens) {
        return "right a to 1" + "+1".repeat((tokens - 5) / 2) + ";";
    }

    static void terms2_401stToken() {
        String odd = ruleOf(397);
        Named.whole(odd + "strike a;");
        Named.whole(odd + "strike a;" + " ".repeat(300));
        Named.fault(odd + "strike a;strike a;", 2, odd.length() + 9);
        Named.fault(odd + "strike a;strike", 2, odd.length() + 9);
        Named.fault(ruleOf(401), 2, ruleOf(401).length() - 1);
        Named.fault(ruleOf(403), 2, ruleOf(401).length() - 1);
        Named.whole(ruleOf(399));
        Named.whole("from 1;" + odd);
        Named.fault("from 1;" + odd + "strike a;", 2, 7 + odd.length());
    }

    static void terms2_401stTokenOfEachKind() {
        // Three tokens, then 198 times a number and a sign: the 400th and the 401st are free.
        String begun = "right a to " + "1+".repeat(198);
        int end = begun.length();
        Named.fault(begun + "1;", 2, end + 1);
        Named.fault(begun + "1+", 2, end + 1);
        Named.fault(begun + "(1", 2, end + 1);
        Named.fault(begun + "((", 2, end + 1);
        Named.fault(begun + "1 if", 2, end + 2);
        Named.fault("bar a if " + "not ".repeat(397) + "not 1<2;", 2, 9 + 4 * 397);
        Named.fault("bar a if " + "not ".repeat(396) + "1<2;", 2, 9 + 4 * 396 + 1);
    }

    static void terms2_401stTokenThatNoTextGoesOnWith() {
        String begun = "right a to " + "1+".repeat(198);
        int end = begun.length();
        Named.fault(begun + "1", 1, end + 1);
        Named.fault(begun + "1 1", 1, end + 2);
        Named.fault(begun + "1)", 1, end + 1);
        Named.fault(begun + "1?", 1, end + 1);
        Named.fault(begun + "1abcdefghi", 1, end + 1);
        Named.fault(begun + "(;", 1, end + 1);
        Named.fault(begun, 1, end);
        Named.fault(begun + "+1;", 1, end);
    }

    static void terms2_25thRuleAtItsFirstToken() {
        String full = "strike a;".repeat(24);
        Named.whole(full);
        Named.whole("from 1;" + full + "  ");
        for (String sort : new String[] {"right", "mend", "bar", "leave", "court", "strike"}) {
            Named.fault(full + sort, 2, full.length());
            Named.fault("from 1;" + full + "  " + sort + " ?", 2, full.length() + 9);
        }
        for (String other : new String[] {"from", "word", "a", "1", ";", "?", "if"}) {
            Named.fault(full + other, 1, full.length());
        }
        Named.fault("strike a;".repeat(23) + "strike b", 1, 9 * 23 + 8);
        Named.whole("bar a if 1<2;".repeat(24));
        Named.fault("bar a if 1<2;".repeat(25), 2, 13 * 24);
    }

    static void terms2_7thParenthesisWithinOneAnother() {
        Named.whole("right a to ((((((1))))));");
        Named.fault("right a to (((((((1)))))));", 2, 17);
        Named.fault("right a to (((((((", 2, 17);
        Named.fault("right a to (((((( (", 2, 18);
        Named.fault("right a to ((((((?", 1, 17);
        Named.whole("bar a if ((((((1))))))<((((((1)))))) and ((((((1))))))<((((((1))))));");
        Named.fault("bar a if (((((((", 2, 15);
        Named.fault("bar a if 1<(((((((", 2, 17);
        Named.fault("bar a if 1<2 or (((((((", 2, 22);
        Named.fault("right a to 1 if (((((((", 2, 22);
    }

    /** A parenthesis that is closed makes room again. */
    static void terms2_parenthesesSideBySide() {
        Named.whole("right a to (1)+(1)+(1)+(1)+(1)+(1)+(1)+(1);");
        Named.whole("right a to ((((((1)+(1)))+((1+(1))))));");
        Named.fault("right a to ((((((1)+(1)))+(((1+(1))))));", 2, 31);
        Named.fault("right a to ((((((1)+((1", 2, 21);
        Named.fault("right a to (((((1)+((1)+((", 2, 25);
        Named.fault("right a to ((((((1))))))+(((((((1", 2, 31);
    }

    static void terms2_wrongDayAbove99() {
        Named.whole("from 0;");
        Named.whole("from 99;");
        Named.whole("from 0099;");
        Named.fault("from 100;", 5, 5);
        Named.fault("from 0100;", 5, 5);
        Named.fault("from 9999;", 5, 5);
        Named.fault("from100;strike a;", 5, 4);
        Named.fault(" \n from \t 100 ; strike a;", 5, 10);
    }

    static void terms2_wrongOnlyIfThereIsNoOther() {
        Named.fault("from 100", 1, 8);
        Named.fault("from 100;?", 1, 9);
        Named.fault("from 100;strike", 1, 15);
        Named.fault("from 100;" + "strike a;".repeat(25), 2, 9 + 216);
        Named.fault("from 100;right a to (((((((1", 2, 26);
        Named.fault("from 100;" + ruleOf(399), 2, 9 + ruleOf(399).length() - 2);
    }

    static void terms2_firstByItsPlace() {
        Named.fault("right a to (((((((1))))))); ?", 2, 17);
        Named.fault("right a to 1 ? (((((((1", 1, 13);
        Named.fault("strike a;".repeat(24) + "strike ?", 2, 216);
        Named.fault("strike a;".repeat(23) + "strike ? a;strike a;", 1, 9 * 23 + 7);
        Named.fault(ruleOf(401) + "?", 2, ruleOf(401).length() - 1);
        Named.fault("right a to (((((((1;" + "strike a;".repeat(25), 2, 17);
        Named.fault("?" + "strike a;".repeat(25), 1, 0);
    }

    /** A text strikes, takes places and adds, then has a fault at its end. */
    static void terms2_aTextWithAFaultChangesNothing() {
        String[] ends = {"?", "strike", "right q to (((((((1", "strike a;".repeat(21),
                "right q to 1" + "+1".repeat(200) + ";"};
        for (String end : ends) {
            faultIsForgotten("strike r;bar m if 1<2;leave n if 1<2;court c if 1<2;" + end);
        }
        faultIsForgotten("from 100;strike r;bar m if 1<2;leave n if 1<2;");
        faultIsForgotten("from 20;strike r;bar m if 1<2;strike");
    }

    private static void faultIsForgotten(String text) {
        SaidRecord x = House.told();
        SaidRecord twin = House.told();
        x.back(House.TAPE);
        twin.back(House.TAPE);
        due("a fault in " + text, Check.read(x, text) == 0 ? 1 : 0, 0);
        // Both have the same latest fault then, and the same text waiting.
        due("the same fault", Check.read(x, "?"), 1);
        due("the same fault", Check.read(twin, "?"), 1);
        Check.feed(x, "strike unknown      ");
        Check.feed(twin, "strike unknown      ");
        Named.alike("behind " + text, x, twin);
    }

    /** However many and long they are, they take no room from those that come behind them. */
    static void terms2_textsWithAFaultLeaveNoTrace() {
        SaidRecord x = new SaidRecord();
        for (int i = 0; i < 10; i++) {
            due("many rules", Check.read(x, "bar b if 1<2;".repeat(23) + "bar"), 1);
        }
        due("rules of a text behind", Check.read(x, "bar c if 1<2;"), 0);
        due("rules(0)", x.rules(0), 1);
        due("its number", x.rule(0, 0, 2), 0);
        due("its text", x.rule(0, 0, 1), 0);
        SaidRecord y = new SaidRecord();
        for (int i = 0; i < 8; i++) {
            due("a long rule", Check.read(y, "right a to 1" + "+1".repeat(196)), 1);
        }
        due("a long rule", Check.read(y, "right a to 1" + "+1".repeat(196) + ";"), 0);
        y.line(0, 0, 0, 0, 5);
        due("its value", y.printed(0, 0, 1, 0), 197);
        SaidRecord z = new SaidRecord();
        for (int i = 0; i < 20; i++) {
            due("left open", Check.read(z, "right a to 1+1*(2-(3-(4-(5-(6-(7-"), 1);
        }
        due("all closed", Check.read(z, "right a to 1*(2+3*(4+5*(6-5*(7-6*(9-8)))));"), 0);
        z.line(0, 0, 0, 0, 5);
        due("its value", z.printed(0, 0, 1, 0), 2 + 3 * (4 + 5 * (6 - 5 * (7 - 6))));
    }

    // ---- in force

    static void terms2_inForceFromItsDayOn() {
        for (int day : new int[] {0, 1, 50, 99}) {
            SaidRecord x = Named.with("from " + day + ";bar a if 1<2;");
            due("on it", x.rules(day), 1);
            due("the day ahead", x.rules(day - 1), day == 0 ? NONE : 0);
            due("the day behind", x.rules(day + 1), day == 99 ? NONE : 1);
            due("on 99", x.rules(99), 1);
        }
        due("without from on 0", Named.with("bar a if 1<2;").rules(0), 1);
    }

    static void terms2_inForceByDaysThenTexts() {
        SaidRecord x = new SaidRecord();
        Check.read(x, "from 2;bar a if 1<2;");
        Check.read(x, "from 1;bar b if 1<2;bar c if 1<2;");
        Check.read(x, "from 2;bar d if 1<2;");
        Check.read(x, "bar e if 1<2;");
        Check.read(x, "from 0;bar f if 1<2;");
        int[] texts = {3, 4, 1, 1, 0, 2};
        due("rules(2)", x.rules(2), 6);
        for (int k = 0; k < 6; k++) {
            due("text of " + k, x.rule(2, k, 1), texts[k]);
        }
        due("rules(1)", x.rules(1), 4);
        due("rules(0)", x.rules(0), 2);
    }

    static void terms2_aRuleTakesThePlaceOfItsName() {
        SaidRecord x = Named.with("bar a if 1<2;bar b if 1<2;bar c if 1<2;leave b if 1<2;");
        due("rules(0)", x.rules(0), 3);
        due("sort", x.rule(0, 1, 0), 3);
        due("number", x.rule(0, 1, 2), 3);
        Check.read(x, "from 7;right c to 1;court a if 1<2;");
        due("rules(7)", x.rules(7), 3);
        due("first", x.rule(7, 0, 0), 4);
        due("second", x.rule(7, 1, 0), 3);
        due("third", x.rule(7, 2, 0), 0);
        due("on 6", x.rule(6, 0, 0), 2);
        due("on 6", x.rule(6, 2, 0), 2);
    }

    static void terms2_strikeTakesOneAway() {
        SaidRecord x = Named.with("bar a if 1<2;bar b if 1<2;bar c if 1<2;");
        Check.read(x, "from 5;strike b;");
        Check.read(x, "from 6;strike a;strike a;");
        Check.read(x, "from 7;strike c;strike c;");
        Check.read(x, "from 8;bar b if 1<2;bar a if 1<2;");
        due("on 4", x.rules(4), 3);
        due("on 5", x.rules(5), 2);
        due("first on 5", x.rule(5, 0, 2), 0);
        due("second on 5", x.rule(5, 1, 2), 2);
        due("on 6", x.rules(6), 1);
        due("first on 6", x.rule(6, 0, 2), 2);
        due("on 7", x.rules(7), 0);
        due("on 8", x.rules(8), 2);
        due("it stands anew", x.rule(8, 0, 1), 4);
        due("as it was told", x.rule(8, 1, 2), 1);
    }

    static void terms2_strikeOfOneThatIsNotThere() {
        SaidRecord x = Named.with("strike a;bar a if 1<2;strike b;");
        due("rules(0)", x.rules(0), 1);
        SaidRecord y = Named.with("strike a;");
        due("rules(0)", y.rules(0), 0);
        Check.read(y, "from 3;bar a if 1<2;");
        Check.read(y, "from 2;strike a;");
        due("a strike of a day ahead", y.rules(3), 1);
    }

    // ---- ints

    static void terms2_intsWrap() {
        Named.holds(LEAST + "<0", true);
        Named.holds("0<" + LEAST + "-1", true);
        Named.holds(LEAST + "-1+1==" + LEAST, true);
        Named.holds("0-" + LEAST + "==" + LEAST, true);
        Named.holds(LEAST + "+" + LEAST + "==0", true);
        Named.holds(LEAST + "*2==0", true);
        Named.holds("(" + LEAST + "-1)*2==0-2", true);
        Named.holds("(" + LEAST + "-1)*(" + LEAST + "-1)==1", true);
        Named.holds("4634*10*(4634*10)<0", false);
        Named.holds("(4634*10+1)*(4634*10+1)<0", true);
        Named.holds("9999*9999*9999/9999/9999==9999", false);
    }

    static void terms2_intsCompareWithoutWrap() {
        Named.holds(LEAST + "<" + LEAST + "-1", true);
        Named.holds(LEAST + "-1<" + LEAST, false);
        Named.holds(LEAST + "<=1", true);
        Named.holds("1<=" + LEAST, false);
        Named.holds(LEAST + "-1<=0-1", false);
        Named.holds(LEAST + "!=" + LEAST + "-1", true);
    }

    static void terms2_divisionIsTowards0() {
        Named.holds("7/2==3", true);
        Named.holds("(0-7)/2==0-3", true);
        Named.holds("7/(0-2)==0-3", true);
        Named.holds("(0-7)/(0-2)==3", true);
        Named.holds("1/2==0", true);
        Named.holds("(0-1)/2==0", true);
        Named.holds("0/5==0", true);
        Named.holds("0/(0-5)==0", true);
        Named.holds("9999/9999==1", true);
        Named.holds("9998/9999==0", true);
    }

    static void terms2_divisionOfTheLeastByMinus1() {
        Named.holds(LEAST + "/(0-1)==" + LEAST, true);
        Named.holds("(" + LEAST + "+1)/(0-1)==" + LEAST + "-1", true);
        Named.right(LEAST + "/(0-1)", 0);
    }

    static void terms2_divisionBy0InALit() {
        for (String compare : new String[] {"==", "!=", "<", "<="}) {
            Named.holds("1/0" + compare + "1", false);
            Named.holds("1" + compare + "1/0", false);
            Named.holds("1/0" + compare + "1/0", false);
            Named.holds("not 1/0" + compare + "1", true);
            Named.holds("not not 1/0" + compare + "1", false);
        }
        Named.holds("0/0==0", false);
        Named.holds("1/(word-50)==0", false);
        Named.holds("1/(word-49)==1", true);
        Named.holds("0*(1/0)==0", false);
        Named.holds("1+(2*(3-4/(5-5)))!=0", false);
        Named.holds("1/0/1==0", false);
        Named.holds("0/(1/0)==0", false);
    }

    static void terms2_divisionBy0IsOfItsLitAlone() {
        Named.holds("1/0==0 or 1==1", true);
        Named.holds("1==1 or 1/0==0", true);
        Named.holds("1/0==0 and 1==1", false);
        Named.holds("1==1 and not 1/0==0", true);
        Named.holds("not 1/0==0 and 1==1", true);
        Named.holds("not 1/0==0 and 1==2", false);
        Named.holds("1/0==0 or not 1/0==0 and 1==1", true);
    }

    static void terms2_divisionBy0IsOfOneRuleAlone() {
        SaidRecord x = Named.with("leave a if 1/0==0;leave b if 1==1;");
        x.line(0, 0, 0, 0, 5);
        due("the next rule", x.printed(0, 0, 1, 2), 1);
        SaidRecord y = Named.with("right a to 7 if 1/0==0;right b to 8 if 1==1;");
        y.line(0, 0, 0, 0, 5);
        due("the next rule's value", y.printed(0, 0, 1, 0), 8);
        SaidRecord z = Named.with("right a to 7 if not 1/0==0;");
        z.line(0, 0, 0, 0, 5);
        due("not is of the condition alone", z.printed(0, 0, 1, 0), 7);
        SaidRecord v = Named.with("right a to 7/0;leave b if 1==1;");
        v.line(0, 0, 0, 0, 5);
        due("an E's is not that of the next rule", v.printed(0, 0, 1, 2), 1);
    }

    static void terms2_anEWithDivisionBy0Is0AsAWhole() {
        Named.right("1/0", 0);
        Named.right("0/0", 0);
        Named.right("5+1/0", 0);
        Named.right("1/0+5", 0);
        Named.right("5+(1/0)", 0);
        Named.right("(1/0)*0+7", 0);
        Named.right("7+0*(1/(50-word))", 0);
        Named.right("7+0*(1/(51-word))", 7);
        Named.right("900/(900/0)", 0);
    }

    static void terms2_bindingAndOrder() {
        Named.right("10-2-3", 5);
        Named.right("10-(2-3)", 11);
        Named.right("100/10*2", 20);
        Named.right("100/(10*2)", 5);
        Named.right("2+3*4", 14);
        Named.right("(2+3)*4", 20);
        Named.holds("1==1 or 1==1 and 1==2", true);
        Named.holds("1==2 and 1==1 or 1==1", true);
        Named.holds("not 1==2 and 1==2", false);
        Named.holds("not 1==1 or 1==1", true);
    }

    /** As many tokens, parentheses and nots as a text may have are worked out right. */
    static void terms2_fullTextsAreWorkedOut() {
        Named.right("1" + "+1".repeat(197), 198);
        Named.right("1" + "*1".repeat(197), 1);
        Named.right("999" + "-1".repeat(197), 802);
        Named.right("(1+(1+(1+(1+(1+(1+1))))))", 7);
        Named.right("1*(2+2*(3+3*(1+1*(2+2*(1+1*(7-6))))))", 2 + 2 * (3 + 3 * (1 + (2 + 2 * 2))));
        Named.right("9-(9-(9-(9-(9-(9-8)))))", 9 - (9 - (9 - (9 - (9 - (9 - 8))))));
        Named.holds("not ".repeat(392) + "1==1", true);
        Named.holds("not ".repeat(391) + "1==1", false);
        Named.holds("1==2 or ".repeat(97) + "1==1", true);
        Named.holds("1==1 and ".repeat(97) + "1==2", false);
        SaidRecord x = new SaidRecord();
        for (int text = 0; text < 6; text++) {
            String name = "" + (char) ('a' + text);
            due("a full text", Check.read(x, "right " + name + " to " + text + "+1".repeat(190)
                    + " if word==" + text + "+1;"), 0);
        }
        for (int word = 1; word <= 6; word++) {
            x.line(0, 0, 0, 0, word);
        }
        for (int line = 0; line < 6; line++) {
            due("by " + line, x.printed(line, 0, 6, 3), line);
            due("to", x.printed(line, 0, 6, 0), line + 190);
        }
    }
}
