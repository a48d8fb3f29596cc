/**
 * The record of a house, as DOC.md tells it: facts are told one by one, rules come as texts, and
 * every answer is worked out anew from the facts that are known by the number asked.
 */
public final class SaidRecord {
    public static final int NONE = -1;

    /** Answers "there is none" where NONE already says that the question itself is wrong. */
    private static final int NOT_ANY = -2;
    private static final int NO_MORE_TEXTS = -2;
    private static final int NO_SUCH_ROSTER = -100;

    private static final int DAYS = 100;
    private static final int MINUTES = 240;
    private static final int WORDS = 1000;
    private static final int MEMBERS = 8;
    private static final int OFFICES = 10;
    private static final int SEATS = 10;
    private static final int PAPERS = 4;
    private static final int PLACES = 10;
    private static final int DIVISIONS = 4;
    private static final int SIDES = 2;
    private static final int TELLERS = 2;
    private static final int FACTS = 180;

    /** The kinds of facts; the first four bear the numbers that fact() takes. */
    private static final int MEND = 0;
    private static final int DOUBT = 1;
    private static final int STRUCK = 2;
    private static final int COURT = 3;
    private static final int LINE = 4;
    private static final int SITS = 5;
    private static final int OFFICE = 6;
    private static final int PAPER = 7;
    private static final int RENAME = 8;
    private static final int VOTE = 9;

    private static final int SAID = 0;
    private static final int READ_FROM_PAPER = 1;
    private static final int BROKE_IN = 2;
    private static final int NOISE = 3;

    private static final int TAPE_BYTES = 2000;
    private static final int FED_BYTES = 20;
    private static final int TEXTS = 6;
    private static final int RULES_OF_A_TEXT = 24;
    private static final int ALL_RULES = 144;
    private static final int TOKENS_OF_A_TEXT = 400;
    private static final int ALL_CODE = 2400;
    private static final int NESTING = 6;
    private static final int NAME_LETTERS = 8;
    private static final int INT_DIGITS = 4;

    private static final int SYNTAX = 1;
    private static final int ROOM = 2;
    private static final int WRONG = 5;

    /** The sorts of rules, as rule() tells them; strikes are kept, but never in force. */
    private static final int RIGHT_RULE = 0;
    private static final int MEND_RULE = 1;
    private static final int BAR_RULE = 2;
    private static final int LEAVE_RULE = 3;
    private static final int COURT_RULE = 4;
    private static final int STRIKE_RULE = 5;

    /** The words in quotes, each with a blank behind it: a word's token is its place in these. */
    private static final String RULE_WORDS =
            "from to if or and not right mend bar leave court strike ";
    private static final String VARIABLE_WORDS =
            "word was paper sort minute member office days times heard next lines ";
    private static final int FROM = 0;
    private static final int TO = 1;
    private static final int IF = 2;
    private static final int OR = 3;
    private static final int AND = 4;
    private static final int NOT = 5;
    private static final int FIRST_RULE_WORD = 6;
    private static final int FIRST_VARIABLE = 12;
    private static final int NAME = 24;
    private static final int INT = 25;
    private static final int SEMICOLON = 26;
    private static final int PLUS = 27;
    private static final int MINUS = 28;
    private static final int STAR = 29;
    private static final int SLASH = 30;
    private static final int EQUAL = 31;
    private static final int UNEQUAL = 32;
    private static final int LESS = 33;
    private static final int AT_MOST = 34;
    private static final int OPEN = 35;
    private static final int CLOSE = 36;
    private static final int END = 37;
    private static final int NO_TOKEN = 38;

    /** Where each variable of the rules stands in the row that a rule is worked out with. */
    private static final int VAR_WORD = 0;
    private static final int VAR_WAS = 1;
    private static final int VAR_PAPER = 2;
    private static final int VAR_SORT = 3;
    private static final int VAR_MINUTE = 4;
    private static final int VAR_MEMBER = 5;
    private static final int VAR_OFFICE = 6;
    private static final int VAR_DAYS = 7;
    private static final int VAR_TIMES = 8;
    private static final int VAR_HEARD = 9;
    private static final int VAR_NEXT = 10;
    private static final int VAR_LINES = 11;
    private static final int VARIABLES = 12;

    /** Code in which rules are kept, operands before operators: an int below VARIABLE is itself. */
    private static final int VARIABLE = 10000;
    private static final int ARITHMETIC = 20000;
    private static final int COMPARISON = 30000;
    private static final int ALTERNATIVE = 40000;
    /** Far more operands or operators than six parentheses within one another can keep waiting. */
    private static final int STACK = 32;

    /** What becomes of a mend, as mended() tells it. */
    private static final int LET = 0;
    private static final int AHEAD_OF_LINE = 1;
    private static final int STRUCK_BY_THEN = 2;
    private static final int NO_MEND_RULE = 3;
    private static final int BARRED = 4;

    private static final int ROWS = 3;
    private static final int ROW_WORDS = 12;
    private static final int FIRST = 0;
    private static final int SECOND = 1;
    private static final int TAPE_ROW = 2;

    private static final int TURNS = 8;
    private static final int REPORTERS = 4;
    private static final int SPEEDS = 6;
    private static final int TURN_SETS = 256;
    /** Behind every end that a roster can have. */
    private static final int NO_END = 100;

    private final Tape tape;
    private final RuleBook book;
    private final Parser parser;
    private final Facts facts;
    private final Press press;
    private final Listing listing;
    private final Renames renames;
    private final Takes takes;
    private final Roster writers;
    private int faultPlace;

    public SaidRecord() {
        tape = new Tape();
        book = new RuleBook();
        parser = new Parser(book);
        facts = new Facts();
        press = new Press(facts, book);
        renames = new Renames(facts);
        listing = new Listing(facts, press, renames);
        takes = new Takes();
        writers = new Roster();
        faultPlace = NONE;
    }

    public int feed(int a, int b, int c, int d, int e) {
        if (!tape.hasRoom()) {
            return NONE;
        }
        tape.append(a);
        tape.append(b);
        tape.append(c);
        tape.append(d);
        tape.append(e);
        return tape.length;
    }

    public int back(int n) {
        if (n < 0 || n > tape.length) {
            return NONE;
        }
        tape.length -= n;
        return tape.length;
    }

    public int read() {
        if (book.texts >= TEXTS) {
            return NO_MORE_TEXTS;
        }
        int fault = parser.parse(tape);
        faultPlace = parser.faultAt;
        tape.length = 0;
        return fault;
    }

    public int place() {
        return faultPlace;
    }

    public int line(int day, int minute, int sort, int seat, int word) {
        boolean spoken = (sort == SAID || sort == BROKE_IN) && isWord(word);
        boolean noise = sort == NOISE && word == 0;
        if (!spoken && !noise) {
            return NONE;
        }
        return tellLine(day, minute, sort, seat, word);
    }

    public int reads(int day, int minute, int seat, int word, int paper, int place) {
        if (!isWord(word) || !isBelow(paper, PAPERS) || !isBelow(place, PLACES)) {
            return NONE;
        }
        int told = tellLine(day, minute, READ_FROM_PAPER, seat, word);
        if (told != NONE) {
            facts.setPaper(told, paper, place);
        }
        return told;
    }

    public int sits(int member, int seat, int day) {
        if (!isBelow(member, MEMBERS) || !isBelow(seat, SEATS) || !isBelow(day, DAYS)) {
            return NONE;
        }
        int told = facts.tell(SITS, day, 0);
        if (told != NONE) {
            facts.member[told] = member;
            facts.seat[told] = seat;
        }
        return told;
    }

    public int office(int member, int v) {
        if (!isBelow(member, MEMBERS) || !isBelow(v, OFFICES)) {
            return NONE;
        }
        int told = facts.tell(OFFICE, 0, 0);
        if (told != NONE) {
            facts.member[told] = member;
            facts.other[told] = v;
        }
        return told;
    }

    public int paper(int paper, int place, int word) {
        if (!isBelow(paper, PAPERS) || !isBelow(place, PLACES) || !isBelow(word, WORDS)) {
            return NONE;
        }
        int told = facts.tell(PAPER, 0, word);
        if (told != NONE) {
            facts.setPaper(told, paper, place);
        }
        return told;
    }

    public int fact(int kind, int line, int word, int day) {
        if (kind < MEND || kind > COURT || !facts.isOfKind(line, LINE, facts.size)) {
            return NONE;
        }
        boolean wordMatters = kind == MEND || kind == DOUBT;
        boolean dayMatters = kind != DOUBT;
        if (wordMatters && !isWord(word) || dayMatters && !isBelow(day, DAYS)) {
            return NONE;
        }
        if (kind == COURT && day < facts.day[line]) {
            return NONE;
        }
        int told = facts.tell(kind, day, word);
        if (told != NONE) {
            facts.subject[told] = line;
        }
        return told;
    }

    public int rename(int one, int other, int day) {
        if (!isWord(one) || !isWord(other) || one == other || !isBelow(day, DAYS)) {
            return NONE;
        }
        int told = facts.tell(RENAME, day, one);
        if (told != NONE) {
            facts.other[told] = other;
        }
        return told;
    }

    public int vote(int division, int member, int side, int teller) {
        if (!isBelow(division, DIVISIONS) || !isBelow(member, MEMBERS)
                || !isBelow(side, SIDES) || !isBelow(teller, TELLERS)) {
            return NONE;
        }
        // No answer asks from which teller's list a vote came, so it is not kept.
        int told = facts.tell(VOTE, 0, 0);
        if (told != NONE) {
            facts.subject[told] = division;
            facts.member[told] = member;
            facts.other[told] = side;
        }
        return told;
    }

    public int rules(int day) {
        return isBelow(day, DAYS) ? book.howManyInForce(day) : NONE;
    }

    public int rule(int day, int k, int what) {
        if (!isBelow(day, DAYS)) {
            return NONE;
        }
        int row = book.inForceAt(day, k);
        if (row == NONE) {
            return NONE;
        }
        switch (what) {
            case 0:
                return book.sort[row];
            case 1:
                return book.textOf[row];
            case 2:
                return book.numberOf[row];
            default:
                return NONE;
        }
    }

    public int who(int seat, int day, int n) {
        if (!isBelow(seat, SEATS) || !isBelow(day, DAYS) || !isKnown(n)) {
            return NONE;
        }
        return facts.sitter(seat, day, n);
    }

    public int printed(int line, int day, int n, int what) {
        if (!isKnown(n) || !facts.isOfKind(line, LINE, n) || !isBelow(day, DAYS)
                || day < facts.day[line] || !isBelow(what, 6)) {
            return NONE;
        }
        press.print(line, day, n);
        switch (what) {
            case 0:
                return press.word;
            case 1:
                return press.struck ? 1 : 0;
            case 2:
                return press.leftBy;
            case 3:
                return press.rightBy;
            case 4:
                return press.lets;
            default:
                return press.sitter;
        }
    }

    public int mended(int fact, int n) {
        if (!isKnown(n) || !facts.isOfKind(fact, MEND, n)) {
            return NONE;
        }
        return press.fateOnItsDay(fact, n);
    }

    public int bar(int fact, int n) {
        if (!isKnown(n) || !facts.isOfKind(fact, MEND, n)) {
            return NONE;
        }
        return press.fateOnItsDay(fact, n) == BARRED ? press.barredBy : NONE;
    }

    public int lines(int day, int d, int n) {
        if (!isPrint(day, d, n)) {
            return NONE;
        }
        listing.listPrint(day, d, n);
        return listing.size;
    }

    public int at(int day, int d, int n, int k) {
        if (!isPrint(day, d, n)) {
            return NONE;
        }
        listing.listPrint(day, d, n);
        return listing.entry(k);
    }

    public int court(int fact, int n, int what) {
        if (!isKnown(n) || !facts.isOfKind(fact, COURT, n) || !isBelow(what, 3)) {
            return NONE;
        }
        press.print(facts.subject[fact], facts.day[fact], what == 2 ? n : fact);
        if (what == 1) {
            return press.keptFromCourt(facts.day[fact]);
        }
        return press.struck ? 0 : press.word;
    }

    public int take(int w, int word) {
        int least = w == TAPE_ROW ? 0 : 1;
        if (!isBelow(w, ROWS) || word < least || word >= WORDS) {
            return NONE;
        }
        return takes.append(w, word);
    }

    public void clear() {
        takes.empty();
    }

    public int join() {
        return takes.overlap();
    }

    public int joined(int i) {
        return takes.joinWord(i);
    }

    public int apart(int w, int x) {
        if (!isBelow(w, ROWS) || !isBelow(x, ROWS)) {
            return NONE;
        }
        return takes.distance(w, x);
    }

    public int sum(int division, int side, int n) {
        if (!isBelow(division, DIVISIONS) || !isBelow(side, SIDES) || !isKnown(n)) {
            return NONE;
        }
        int here = facts.voters(division, side, n);
        int there = facts.voters(division, 1 - side, n);
        return Integer.bitCount(here & ~there);
    }

    public int doubles(int division, int n) {
        if (!isBelow(division, DIVISIONS) || !isKnown(n)) {
            return NONE;
        }
        return facts.voters(division, 0, n) & facts.voters(division, 1, n);
    }

    public int moved(int division, int n) {
        if (!isBelow(division, DIVISIONS) || !isKnown(n)) {
            return NONE;
        }
        return facts.lastTurnOfDivision(division, n);
    }

    public boolean reporter(int k, int speed, int cant) {
        if (!isBelow(k, REPORTERS) || speed < 1 || speed > SPEEDS || !isBelow(cant, TURN_SETS)) {
            return false;
        }
        writers.setReporter(k, speed, cant);
        return true;
    }

    public int roster(int t, int m) {
        if (t < 1 || t > TURNS || m < 1 || m > REPORTERS) {
            return NO_SUCH_ROSTER;
        }
        return writers.arrange(t, m);
    }

    public int turn(int k) {
        return writers.taker(k);
    }

    public int names(int word, int day, int n) {
        if (!isWord(word) || !isBelow(day, DAYS) || !isKnown(n)) {
            return NONE;
        }
        listing.listNaming(word, day, n);
        return listing.size;
    }

    public int found(int word, int day, int n, int i) {
        if (!isWord(word) || !isBelow(day, DAYS) || !isKnown(n)) {
            return NONE;
        }
        listing.listNaming(word, day, n);
        return listing.entry(i);
    }

    public int same(int one, int other, int day, int n) {
        if (!isWord(one) || !isWord(other) || !isBelow(day, DAYS) || !isKnown(n)) {
            return NONE;
        }
        renames.gather(one, day, n);
        return renames.gathered(other) ? 1 : 0;
    }

    public int count(int what) {
        switch (what) {
            case 0:
                return facts.size;
            case 1:
                return book.texts;
            case 2:
                return tape.length;
            case 3:
            case 4:
            case 5:
                return takes.lengthOf(what - 3);
            default:
                return NONE;
        }
    }

    private int tellLine(int day, int minute, int sort, int seat, int word) {
        if (!isBelow(day, DAYS) || !isBelow(minute, MINUTES) || !isBelow(seat, SEATS)) {
            return NONE;
        }
        int told = facts.tell(LINE, day, word);
        if (told != NONE) {
            facts.minute[told] = minute;
            facts.other[told] = sort;
            facts.seat[told] = seat;
        }
        return told;
    }

    private boolean isKnown(int n) {
        return n >= 0 && n <= facts.size;
    }

    private boolean isPrint(int day, int d, int n) {
        return isBelow(day, DAYS) && isBelow(d, DAYS) && d >= day && isKnown(n);
    }

    private static boolean isWord(int word) {
        return word >= 1 && word < WORDS;
    }

    private static boolean isBelow(int x, int bound) {
        return x >= 0 && x < bound;
    }

    /** The bytes that were fed and not read yet. */
    private static final class Tape {
        final byte[] bytes = new byte[TAPE_BYTES];
        int length;

        boolean hasRoom() {
            return length <= TAPE_BYTES - FED_BYTES;
        }

        void append(int four) {
            for (int shift = 24; shift >= 0; shift -= 8) {
                if (length < TAPE_BYTES) {
                    bytes[length] = (byte) (four >>> shift);
                    length++;
                }
            }
        }

        /** The byte as 0 .. 255; NONE behind the end. */
        int byteAt(int i) {
            return i >= 0 && i < length && i < TAPE_BYTES ? bytes[i] & 255 : NONE;
        }

        int behindBlanks(int from) {
            int to = from;
            while (to < length && isBlank(byteAt(to))) {
                to++;
            }
            return to;
        }

        static boolean isBlank(int sign) {
            return sign == 9 || sign == 10 || sign == 13 || sign == 32;
        }
    }

    /**
     * A text cut into tokens. The last one is the text's end, or what is no token, or the 401st:
     * whichever comes first, no text is read beyond it.
     */
    private static final class Tokens {
        final int[] kind = new int[TOKENS_OF_A_TEXT + 1];
        final int[] start = new int[TOKENS_OF_A_TEXT + 1];
        final long[] value = new long[TOKENS_OF_A_TEXT + 1];
        int size;

        void cut(Tape tape) {
            int from = 0;
            boolean more = true;
            size = 0;
            while (more && size < kind.length) {
                from = tape.behindBlanks(from);
                start[size] = from;
                value[size] = 0;
                from = cutOne(tape, from);
                more = kind[size] != END && kind[size] != NO_TOKEN;
                size++;
            }
        }

        private int cutOne(Tape tape, int from) {
            int sign = tape.byteAt(from);
            if (sign == NONE) {
                return keep(END, from);
            }
            if (isLetter(sign)) {
                return cutLetters(tape, from);
            }
            if (isDigit(sign)) {
                return cutDigits(tape, from);
            }
            return cutSign(sign, tape.byteAt(from + 1) == '=', from);
        }

        private int cutLetters(Tape tape, int from) {
            long packed = 0;
            int to = from;
            while (to < tape.length && isLetter(tape.byteAt(to))) {
                if (to - from < NAME_LETTERS) {
                    packed = packLetter(packed, tape.byteAt(to));
                }
                to++;
            }
            if (to - from > NAME_LETTERS) {
                return keep(NO_TOKEN, to);
            }
            value[size] = packed;
            return keep(wordToken(packed), to);
        }

        private int cutDigits(Tape tape, int from) {
            int number = 0;
            int to = from;
            while (to < tape.length && isDigit(tape.byteAt(to))) {
                if (to - from < INT_DIGITS) {
                    number = number * 10 + tape.byteAt(to) - '0';
                }
                to++;
            }
            if (to - from > INT_DIGITS) {
                return keep(NO_TOKEN, to);
            }
            value[size] = number;
            return keep(INT, to);
        }

        private int cutSign(int sign, boolean equalsBehind, int from) {
            switch (sign) {
                case ';':
                    return keep(SEMICOLON, from + 1);
                case '+':
                    return keep(PLUS, from + 1);
                case '-':
                    return keep(MINUS, from + 1);
                case '*':
                    return keep(STAR, from + 1);
                case '/':
                    return keep(SLASH, from + 1);
                case '(':
                    return keep(OPEN, from + 1);
                case ')':
                    return keep(CLOSE, from + 1);
                case '<':
                    return equalsBehind ? keep(AT_MOST, from + 2) : keep(LESS, from + 1);
                case '=':
                    return keep(equalsBehind ? EQUAL : NO_TOKEN, from + 2);
                case '!':
                    return keep(equalsBehind ? UNEQUAL : NO_TOKEN, from + 2);
                default:
                    return keep(NO_TOKEN, from + 1);
            }
        }

        private int keep(int token, int behind) {
            if (size >= 0 && size < kind.length) {
                kind[size] = token;
            }
            return behind;
        }

        /** Eight letters fit into a long, so names are compared as numbers. */
        private static long packLetter(long packed, int letter) {
            return packed * 32 + (letter - 'a' + 1);
        }

        private static int wordToken(long packed) {
            int ruleWord = placeAmong(RULE_WORDS, packed);
            if (ruleWord != NONE) {
                return ruleWord;
            }
            int variable = placeAmong(VARIABLE_WORDS, packed);
            return variable != NONE ? FIRST_VARIABLE + variable : NAME;
        }

        private static int placeAmong(String quoted, long packed) {
            int number = 0;
            long word = 0;
            for (int i = 0; i < quoted.length(); i++) {
                int sign = quoted.charAt(i);
                if (sign != ' ') {
                    word = packLetter(word, sign);
                } else if (word == packed) {
                    return number;
                } else {
                    number++;
                    word = 0;
                }
            }
            return NONE;
        }

        private static boolean isLetter(int sign) {
            return sign >= 'a' && sign <= 'z';
        }

        private static boolean isDigit(int sign) {
            return sign >= '0' && sign <= '9';
        }
    }

    /**
     * Reads a text into the rule book, token by token. A token is first asked whether a text goes
     * on with it, then whether there is room for it: so the first fault by place is found first,
     * and behind it nothing is accepted any more.
     */
    private static final class Parser {
        final RuleBook book;
        final Tokens tokens = new Tokens();
        final int[] waiting = new int[STACK];
        int waitingSize;
        int next;
        int token;
        int tokenAt;
        long tokenValue;
        int fault;
        int faultAt = NONE;

        Parser(RuleBook book) {
            this.book = book;
        }

        int parse(Tape tape) {
            int day = 0;
            int dayAt = NONE;
            tokens.cut(tape);
            book.openText();
            fault = 0;
            faultAt = NONE;
            moveTo(0);
            if (token == FROM && accept(FROM)) {
                day = (int) tokenValue;
                dayAt = tokenAt;
                accept(INT);
                accept(SEMICOLON);
            }
            for (int i = 0; i <= RULES_OF_A_TEXT && fault == 0 && token != END; i++) {
                parseRule(i);
            }
            if (fault == 0 && day >= DAYS) {
                fault = WRONG;
                faultAt = dayAt;
            }
            if (fault == 0) {
                book.closeText(day);
            }
            return fault;
        }

        private void parseRule(int number) {
            int sort = token - FIRST_RULE_WORD;
            if (sort < RIGHT_RULE || sort > STRIKE_RULE) {
                refuse(SYNTAX);
                return;
            }
            if (number >= RULES_OF_A_TEXT) {
                refuse(ROOM);
                return;
            }
            accept(token);
            book.openRule(sort, tokenValue, number);
            accept(NAME);
            if (sort == RIGHT_RULE) {
                accept(TO);
                parseExpression();
                book.beginCondition();
            }
            if (sort != STRIKE_RULE && (sort != RIGHT_RULE || token == IF)) {
                accept(IF);
                parseCondition();
            }
            if (accept(SEMICOLON)) {
                book.closeRule();
            }
        }

        private void parseCondition() {
            boolean more = true;
            for (int i = 0; more && fault == 0 && i <= TOKENS_OF_A_TEXT; i++) {
                int negated = parseNots() % 2;
                parseExpression();
                int comparison = token;
                if (comparison < EQUAL || comparison > AT_MOST) {
                    refuse(SYNTAX);
                }
                accept(comparison);
                parseExpression();
                book.emit(COMPARISON + 2 * comparison + negated);
                if (token == OR) {
                    book.emit(ALTERNATIVE);
                }
                more = (token == AND || token == OR) && accept(token);
            }
        }

        private int parseNots() {
            int many = 0;
            while (many <= TOKENS_OF_A_TEXT && token == NOT && accept(NOT)) {
                many++;
            }
            return many;
        }

        /** Operators wait until all that binds as tight has come: no call goes deeper for a (. */
        private void parseExpression() {
            int open = 0;
            boolean more = true;
            waitingSize = 0;
            for (int i = 0; more && fault == 0 && i <= TOKENS_OF_A_TEXT; i++) {
                open = parseOpenings(open);
                parseOperand();
                open = parseClosings(open);
                int operator = token;
                more = operator >= PLUS && operator <= SLASH;
                emitWaiting(more ? operator : PLUS);
                if (more) {
                    hold(operator);
                    accept(operator);
                }
            }
            if (open > 0) {
                refuse(SYNTAX);
            }
        }

        private int parseOpenings(int open) {
            int depth = open;
            while (depth < NESTING && token == OPEN && accept(OPEN)) {
                hold(OPEN);
                depth++;
            }
            if (token == OPEN) {
                refuse(ROOM);
            }
            return depth;
        }

        private void parseOperand() {
            boolean variable = token >= FIRST_VARIABLE && token < FIRST_VARIABLE + VARIABLES;
            int entry = variable ? VARIABLE + token - FIRST_VARIABLE : (int) tokenValue;
            if (accept(variable ? token : INT)) {
                book.emit(entry);
            }
        }

        private int parseClosings(int open) {
            int depth = open;
            while (depth > 0 && token == CLOSE && accept(CLOSE)) {
                emitWaiting(PLUS);
                waitingSize--;
                depth--;
            }
            return depth;
        }

        private void hold(int operator) {
            if (waitingSize >= 0 && waitingSize < waiting.length) {
                waiting[waitingSize] = operator;
                waitingSize++;
            }
        }

        /** Gives out the operators, back to the last (, that bind as tight as this one does. */
        private void emitWaiting(int operator) {
            while (waitingSize > 0 && bindsAsTight(waiting[waitingSize - 1], operator)) {
                waitingSize--;
                book.emit(ARITHMETIC + waiting[waitingSize]);
            }
        }

        private static boolean bindsAsTight(int waitingOne, int operator) {
            boolean weak = operator == PLUS || operator == MINUS;
            return waitingOne == STAR || waitingOne == SLASH || waitingOne != OPEN && weak;
        }

        private boolean accept(int wanted) {
            if (token != wanted) {
                refuse(SYNTAX);
            } else if (next >= TOKENS_OF_A_TEXT) {
                refuse(ROOM);
            }
            if (fault == 0) {
                moveTo(next + 1);
            }
            return fault == 0;
        }

        private void refuse(int number) {
            if (fault == 0) {
                fault = number;
                faultAt = tokenAt;
            }
        }

        private void moveTo(int number) {
            next = number;
            if (number >= 0 && number < tokens.size) {
                token = tokens.kind[number];
                tokenAt = tokens.start[number];
                tokenValue = tokens.value[number];
            }
        }
    }

    /** The rules of all texts, and which of them are in force. */
    private static final class RuleBook {
        final int[] code = new int[ALL_CODE];
        final int[] sort = new int[ALL_RULES];
        final long[] name = new long[ALL_RULES];
        final int[] textOf = new int[ALL_RULES];
        final int[] numberOf = new int[ALL_RULES];
        final int[] codeAt = new int[ALL_RULES];
        final int[] conditionAt = new int[ALL_RULES];
        final int[] codeEnd = new int[ALL_RULES];
        final int[] textDay = new int[TEXTS];
        final int[] textEnd = new int[TEXTS];
        /** For each number of texts that have come, by their days, what is in force then. */
        final int[] inForce = new int[(TEXTS + 1) * ALL_RULES];
        final int[] inForceSize = new int[TEXTS + 1];
        final Reckoner reckoner = new Reckoner();
        int codeSize;
        int ruleSize;
        int texts;

        /** What a text with a fault has left behind the last whole text is written over. */
        void openText() {
            ruleSize = texts > 0 && texts <= TEXTS ? textEnd[texts - 1] : 0;
            codeSize = ruleSize > 0 && ruleSize <= ALL_RULES ? codeEnd[ruleSize - 1] : 0;
        }

        void openRule(int sortOfRule, long nameOfRule, int number) {
            if (ruleSize < 0 || ruleSize >= ALL_RULES) {
                return;
            }
            sort[ruleSize] = sortOfRule;
            name[ruleSize] = nameOfRule;
            textOf[ruleSize] = texts;
            numberOf[ruleSize] = number;
            codeAt[ruleSize] = codeSize;
            conditionAt[ruleSize] = codeSize;
        }

        void beginCondition() {
            if (ruleSize >= 0 && ruleSize < ALL_RULES) {
                conditionAt[ruleSize] = codeSize;
            }
        }

        void emit(int entry) {
            if (codeSize >= 0 && codeSize < ALL_CODE) {
                code[codeSize] = entry;
                codeSize++;
            }
        }

        void closeRule() {
            if (ruleSize >= 0 && ruleSize < ALL_RULES) {
                codeEnd[ruleSize] = codeSize;
                ruleSize++;
            }
        }

        void closeText(int day) {
            if (texts < 0 || texts >= TEXTS) {
                return;
            }
            textDay[texts] = day;
            textEnd[texts] = ruleSize;
            texts++;
            enforceAll();
        }

        private void enforceAll() {
            int level = 0;
            for (int day = 0; day < DAYS; day++) {
                for (int text = 0; text < texts && level < TEXTS; text++) {
                    if (textDay[text] == day) {
                        enforceText(text, level);
                        level++;
                    }
                }
            }
        }

        /** Makes the list behind that of this level: that list, changed by a text. */
        private void enforceText(int text, int level) {
            int from = level * ALL_RULES;
            int to = from + ALL_RULES;
            System.arraycopy(inForce, from, inForce, to, ALL_RULES);
            inForceSize[level + 1] = inForceSize[level];
            int first = text > 0 ? textEnd[text - 1] : 0;
            for (int row = first; row < textEnd[text]; row++) {
                int k = namedInForce(level + 1, name[row]);
                if (sort[row] == STRIKE_RULE) {
                    takeAway(level + 1, k);
                } else if (k != NONE) {
                    inForce[to + k] = row;
                } else if (inForceSize[level + 1] < ALL_RULES) {
                    inForce[to + inForceSize[level + 1]] = row;
                    inForceSize[level + 1]++;
                }
            }
        }

        private int namedInForce(int level, long nameOfRule) {
            for (int k = 0; k < inForceSize[level]; k++) {
                if (name[inForce[level * ALL_RULES + k]] == nameOfRule) {
                    return k;
                }
            }
            return NONE;
        }

        private void takeAway(int level, int k) {
            if (k == NONE) {
                return;
            }
            int from = level * ALL_RULES;
            inForceSize[level]--;
            for (int i = k; i < inForceSize[level]; i++) {
                inForce[from + i] = inForce[from + i + 1];
            }
        }

        private int levelOn(int day) {
            int level = 0;
            for (int text = 0; text < texts; text++) {
                if (textDay[text] <= day) {
                    level++;
                }
            }
            return level;
        }

        int howManyInForce(int day) {
            return inForceSize[levelOn(day)];
        }

        /** The row of the k-th rule in force on a day; NONE: there are not so many. */
        int inForceAt(int day, int k) {
            int level = levelOn(day);
            return k >= 0 && k < inForceSize[level] ? inForce[level * ALL_RULES + k] : NONE;
        }

        /** The k of the first rule of a sort in force on a day that holds; NOT_ANY: none does. */
        int firstThatHolds(int sortOfRule, int day, int[] variables) {
            int level = levelOn(day);
            for (int k = 0; k < inForceSize[level]; k++) {
                int row = inForce[level * ALL_RULES + k];
                if (sort[row] == sortOfRule
                        && reckoner.work(code, conditionAt[row], codeEnd[row], variables)) {
                    return k;
                }
            }
            return NOT_ANY;
        }

        /** What the k-th rule in force on a day, a right rule, puts in a word's place. */
        int valueOf(int day, int k, int[] variables) {
            int row = inForceAt(day, k);
            if (row == NONE) {
                return 0;
            }
            reckoner.work(code, codeAt[row], conditionAt[row], variables);
            return reckoner.result();
        }
    }

    /** Works out the code of rules. */
    private static final class Reckoner {
        final int[] stack = new int[STACK];
        int height;
        boolean dividedByZero;

        /** Whether a condition holds: without any, it does. */
        boolean work(int[] code, int from, int to, int[] variables) {
            boolean all = true;
            height = 0;
            dividedByZero = false;
            for (int i = Math.max(0, from); i < to && i < code.length; i++) {
                int entry = code[i];
                if (entry < VARIABLE) {
                    push(entry);
                } else if (entry < ARITHMETIC) {
                    push(entry - VARIABLE < variables.length ? variables[entry - VARIABLE] : 0);
                } else if (entry < COMPARISON) {
                    calculate(entry - ARITHMETIC);
                } else if (entry < ALTERNATIVE) {
                    all = compare(entry - COMPARISON) && all;
                } else if (all) {
                    return true;
                } else {
                    all = true;
                }
            }
            return all;
        }

        /** What the code that was worked out last, an expression, comes to. */
        int result() {
            return height == 1 && !dividedByZero ? stack[0] : 0;
        }

        private void push(int value) {
            if (height >= 0 && height < stack.length) {
                stack[height] = value;
                height++;
            }
        }

        private void calculate(int operator) {
            if (height < 2 || height > stack.length) {
                return;
            }
            height--;
            int left = stack[height - 1];
            int right = stack[height];
            int value = 0;
            if (operator == PLUS) {
                value = left + right;
            } else if (operator == MINUS) {
                value = left - right;
            } else if (operator == STAR) {
                value = left * right;
            } else if (right != 0) {
                value = left / right;
            } else {
                dividedByZero = true;
            }
            stack[height - 1] = value;
        }

        private boolean compare(int coded) {
            int order = height == 2 ? Integer.compare(stack[0], stack[1]) : 0;
            int comparison = coded / 2;
            boolean held = comparison == EQUAL && order == 0
                    || comparison == UNEQUAL && order != 0
                    || comparison == LESS && order < 0
                    || comparison == AT_MOST && order <= 0;
            boolean holds = held && !dividedByZero;
            boolean negated = coded % 2 == 1;
            height = 0;
            dividedByZero = false;
            return holds != negated;
        }
    }

    /** All that was told, a row a fact; what a kind of fact has no use for is 0. */
    private static final class Facts {
        final int[] kind = new int[FACTS];
        final int[] day = new int[FACTS];
        final int[] minute = new int[FACTS];
        final int[] seat = new int[FACTS];
        final int[] word = new int[FACTS];
        final int[] paper = new int[FACTS];
        final int[] place = new int[FACTS];
        final int[] member = new int[FACTS];
        /** The line that a fact is of, or the division of a vote. */
        final int[] subject = new int[FACTS];
        /** The sort of a line, the office told, the side of a vote, the other word of a rename. */
        final int[] other = new int[FACTS];
        int size;

        int tell(int kindOfFact, int dayOfFact, int wordOfFact) {
            if (size >= FACTS) {
                return NONE;
            }
            kind[size] = kindOfFact;
            day[size] = dayOfFact;
            word[size] = wordOfFact;
            size++;
            return size - 1;
        }

        void setPaper(int fact, int paperOfFact, int placeOfFact) {
            if (fact >= 0 && fact < size) {
                paper[fact] = paperOfFact;
                place[fact] = placeOfFact;
            }
        }

        boolean isOfKind(int fact, int kindOfFact, int n) {
            return fact >= 0 && fact < n && fact < size && kind[fact] == kindOfFact;
        }

        private boolean isAbout(int fact, int kindOfFact, int line) {
            return kind[fact] == kindOfFact && subject[fact] == line;
        }

        /** Who sits in a seat on a day; NOT_ANY: nobody, or one who has gone to another seat. */
        int sitter(int seatAsked, int dayAsked, int n) {
            int latest = NONE;
            for (int f = 0; f < n; f++) {
                if (kind[f] == SITS && seat[f] == seatAsked) {
                    latest = laterOf(latest, f, dayAsked);
                }
            }
            if (latest == NONE) {
                return NOT_ANY;
            }
            int sitting = member[latest];
            int own = NONE;
            for (int f = 0; f < n; f++) {
                if (kind[f] == SITS && member[f] == sitting) {
                    own = laterOf(own, f, dayAsked);
                }
            }
            return own != NONE && seat[own] == seatAsked ? sitting : NOT_ANY;
        }

        /** Of two facts, the second told behind the first, that of the later day up to one. */
        private int laterOf(int before, int fact, int lastDay) {
            if (day[fact] > lastDay) {
                return before;
            }
            return before == NONE || day[fact] >= day[before] ? fact : before;
        }

        int officeOf(int memberAsked, int n) {
            int latest = 0;
            for (int f = 0; f < n; f++) {
                if (kind[f] == OFFICE && member[f] == memberAsked) {
                    latest = other[f];
                }
            }
            return latest;
        }

        /** What the paper has at the place that a line was read from; 0 for all other lines. */
        int paperWord(int line, int n) {
            int latest = 0;
            for (int f = 0; other[line] == READ_FROM_PAPER && f < n; f++) {
                if (kind[f] == PAPER && paper[f] == paper[line] && place[f] == place[line]) {
                    latest = word[f];
                }
            }
            return latest;
        }

        int heardWord(int line, int n) {
            int latest = 0;
            for (int f = line + 1; f < n; f++) {
                if (isAbout(f, DOUBT, line)) {
                    latest = word[f];
                }
            }
            return latest;
        }

        int linesBeside(int line, int n) {
            int many = 0;
            for (int f = 0; f < n; f++) {
                if (kind[f] == LINE && day[f] == day[line] && seat[f] == seat[line]) {
                    many++;
                }
            }
            return many;
        }

        boolean isStruckBy(int line, int lastDay, int n) {
            for (int f = line + 1; f < n; f++) {
                if (isAbout(f, STRUCK, line) && day[f] <= lastDay) {
                    return true;
                }
            }
            return false;
        }

        boolean isMendBy(int fact, int line, int lastDay) {
            return isAbout(fact, MEND, line) && day[fact] <= lastDay;
        }

        /** Whether a line comes behind another, told before it, as lines of all days stand. */
        boolean standsBehind(int earlierTold, int laterTold) {
            if (day[earlierTold] != day[laterTold]) {
                return day[earlierTold] > day[laterTold];
            }
            return minute[earlierTold] > minute[laterTold];
        }

        /** The members (bits) of whom some vote is on a side. */
        int voters(int division, int side, int n) {
            int bits = 0;
            for (int f = 0; f < n; f++) {
                if (isAbout(f, VOTE, division) && other[f] == side) {
                    bits |= 1 << member[f];
                }
            }
            return bits;
        }

        int lastTurnOfDivision(int division, int n) {
            int ayes = 0;
            int noes = 0;
            int last = NOT_ANY;
            boolean carried = false;
            for (int f = 0; f < n; f++) {
                if (isAbout(f, VOTE, division)) {
                    int bit = 1 << member[f];
                    ayes |= other[f] == 0 ? bit : 0;
                    noes |= other[f] == 1 ? bit : 0;
                    boolean now = Integer.bitCount(ayes & ~noes) > Integer.bitCount(noes & ~ayes);
                    last = now == carried ? last : f;
                    carried = now;
                }
            }
            return last;
        }
    }

    /** Prints a line as it stands on a day, as known by n: its fields tell the latest one asked. */
    private static final class Press {
        final Facts facts;
        final RuleBook book;
        final int[] variables = new int[VARIABLES];
        int word;
        int rightBy;
        int lets;
        boolean struck;
        int leftBy;
        int barredBy;
        int sitter;

        Press(Facts facts, RuleBook book) {
            this.facts = facts;
            this.book = book;
        }

        void print(int line, int d, int n) {
            mendAll(line, d, n, n);
            struck = facts.isStruckBy(line, d, n);
            setVariables(d - facts.day[line], 0);
            leftBy = book.firstThatHolds(LEAVE_RULE, d, variables);
        }

        /** What becomes of a mend on its own day; before it come only mends not behind that day. */
        int fateOnItsDay(int mend, int n) {
            mendAll(facts.subject[mend], facts.day[mend], n, mend);
            return fate(mend, n);
        }

        /** By which rule the line just printed on a day is kept from a court on that day. */
        int keptFromCourt(int d) {
            return book.firstThatHolds(COURT_RULE, d, variables);
        }

        /** Puts a line right, then lets the mends of it that are told before the end. */
        private void mendAll(int line, int d, int n, int end) {
            putRight(line, n);
            for (int f = line + 1; f < end; f++) {
                if (facts.isMendBy(f, line, d) && fate(f, n) == LET) {
                    word = facts.word[f];
                    lets++;
                }
            }
        }

        private void putRight(int line, int n) {
            int day = facts.day[line];
            sitter = facts.sitter(facts.seat[line], day, n);
            word = facts.word[line];
            lets = 0;
            variables[VAR_WAS] = word;
            variables[VAR_PAPER] = facts.paperWord(line, n);
            variables[VAR_SORT] = facts.other[line];
            variables[VAR_MINUTE] = facts.minute[line];
            variables[VAR_MEMBER] = sitter == NOT_ANY ? 0 : sitter + 1;
            variables[VAR_OFFICE] = sitter == NOT_ANY ? 0 : facts.officeOf(sitter, n);
            variables[VAR_HEARD] = facts.heardWord(line, n);
            variables[VAR_LINES] = facts.linesBeside(line, n);
            setVariables(0, 0);
            rightBy = book.firstThatHolds(RIGHT_RULE, day, variables);
            if (rightBy != NOT_ANY) {
                int value = book.valueOf(day, rightBy, variables);
                word = Math.max(0, Math.min(WORDS - 1, value));
            }
        }

        private int fate(int mend, int n) {
            int line = facts.subject[mend];
            int day = facts.day[mend];
            if (day < facts.day[line]) {
                return AHEAD_OF_LINE;
            }
            if (facts.isStruckBy(line, day, n)) {
                return STRUCK_BY_THEN;
            }
            setVariables(day - facts.day[line], facts.word[mend]);
            if (book.firstThatHolds(MEND_RULE, day, variables) == NOT_ANY) {
                return NO_MEND_RULE;
            }
            barredBy = book.firstThatHolds(BAR_RULE, day, variables);
            return barredBy == NOT_ANY ? LET : BARRED;
        }

        private void setVariables(int days, int next) {
            variables[VAR_WORD] = word;
            variables[VAR_DAYS] = days;
            variables[VAR_TIMES] = lets;
            variables[VAR_NEXT] = next;
        }
    }

    /** Which words name the same as one word does. */
    private static final class Renames {
        final Facts facts;
        final boolean[] marked = new boolean[WORDS];

        Renames(Facts facts) {
            this.facts = facts;
        }

        /** Goes over the renames until none joins a word any more: each round but the last does. */
        void gather(int word, int day, int n) {
            for (int w = 0; w < WORDS; w++) {
                marked[w] = w == word;
            }
            boolean more = true;
            for (int round = 0; more && round <= n; round++) {
                more = joinOnce(day, n);
            }
        }

        private boolean joinOnce(int day, int n) {
            boolean joinedOne = false;
            for (int f = 0; f < n; f++) {
                if (facts.kind[f] == RENAME && facts.day[f] <= day
                        && gathered(facts.word[f]) != gathered(facts.other[f])) {
                    mark(facts.word[f]);
                    mark(facts.other[f]);
                    joinedOne = true;
                }
            }
            return joinedOne;
        }

        private void mark(int word) {
            if (isWord(word)) {
                marked[word] = true;
            }
        }

        boolean gathered(int word) {
            return isWord(word) && marked[word];
        }
    }

    /** Lists of lines as they stand: the print of a day, and the lines that name a word. */
    private static final class Listing {
        final Facts facts;
        final Press press;
        final Renames renames;
        final int[] row = new int[FACTS];
        int size;

        Listing(Facts facts, Press press, Renames renames) {
            this.facts = facts;
            this.press = press;
            this.renames = renames;
        }

        void listPrint(int day, int d, int n) {
            size = 0;
            for (int f = 0; f < n; f++) {
                if (facts.kind[f] == LINE && facts.day[f] == day) {
                    press.print(f, d, n);
                    if (press.leftBy == NOT_ANY) {
                        insert(f);
                    }
                }
            }
        }

        /** A struck line stands with word 0, which names nothing. */
        void listNaming(int word, int d, int n) {
            renames.gather(word, d, n);
            size = 0;
            for (int f = 0; f < n; f++) {
                if (facts.kind[f] == LINE && facts.day[f] <= d) {
                    press.print(f, d, n);
                    if (press.leftBy == NOT_ANY && !press.struck && renames.gathered(press.word)) {
                        insert(f);
                    }
                }
            }
        }

        int entry(int i) {
            return i >= 0 && i < size && i < row.length ? row[i] : NONE;
        }

        private void insert(int line) {
            if (size < 0 || size >= row.length) {
                return;
            }
            int i = size;
            while (i > 0 && facts.standsBehind(row[i - 1], line)) {
                row[i] = row[i - 1];
                i--;
            }
            row[i] = line;
            size++;
        }
    }

    /** The three rows of words, one behind the other. */
    private static final class Takes {
        final int[] words = new int[ROWS * ROW_WORDS];
        final int[] length = new int[ROWS];
        final int[] costs = new int[ROW_WORDS + 1];

        int append(int w, int word) {
            if (lengthOf(w) == NONE || length[w] >= ROW_WORDS) {
                return NONE;
            }
            words[w * ROW_WORDS + length[w]] = word;
            length[w]++;
            return length[w];
        }

        void empty() {
            for (int w = 0; w < ROWS; w++) {
                length[w] = 0;
            }
        }

        int lengthOf(int w) {
            return w >= 0 && w < ROWS ? length[w] : NONE;
        }

        private int wordAt(int w, int i) {
            return i >= 0 && i < lengthOf(w) ? words[w * ROW_WORDS + i] : NONE;
        }

        int overlap() {
            for (int k = Math.min(length[FIRST], length[SECOND]); k > 0; k--) {
                if (differences(k) <= k / 3) {
                    return k;
                }
            }
            return 0;
        }

        private int differences(int k) {
            int many = 0;
            int begin = length[FIRST] - k;
            for (int i = 0; i < k; i++) {
                if (wordAt(FIRST, begin + i) != wordAt(SECOND, i)) {
                    many++;
                }
            }
            return many;
        }

        int joinWord(int i) {
            int begin = length[FIRST] - overlap();
            if (i < 0 || i >= begin + length[SECOND]) {
                return NONE;
            }
            if (i < begin) {
                return wordAt(FIRST, i);
            }
            if (i >= length[FIRST]) {
                return wordAt(SECOND, i - begin);
            }
            return moreHeard(wordAt(FIRST, i), wordAt(SECOND, i - begin));
        }

        private int moreHeard(int first, int second) {
            return timesOnTape(second) > timesOnTape(first) ? second : first;
        }

        private int timesOnTape(int word) {
            int times = 0;
            for (int i = 0; i < length[TAPE_ROW]; i++) {
                if (wordAt(TAPE_ROW, i) == word) {
                    times++;
                }
            }
            return times;
        }

        /** costs[j] is how far the words of w so far and the first j of x are apart. */
        int distance(int w, int x) {
            for (int j = 0; j <= ROW_WORDS; j++) {
                costs[j] = j;
            }
            for (int i = 0; i < lengthOf(w); i++) {
                int slanting = costs[0];
                costs[0] = i + 1;
                for (int j = 0; j < lengthOf(x) && j < ROW_WORDS; j++) {
                    int change = slanting + (wordAt(w, i) == wordAt(x, j) ? 0 : 1);
                    slanting = costs[j + 1];
                    costs[j + 1] = Math.min(change, 1 + Math.min(slanting, costs[j]));
                }
            }
            int end = lengthOf(x);
            return end >= 0 && end <= ROW_WORDS ? costs[end] : NONE;
        }
    }

    /** The reporters, and the roster that is remembered. */
    private static final class Roster {
        final int[] speed = new int[REPORTERS];
        final int[] cant = new int[REPORTERS];
        final int[] freeFrom = new int[REPORTERS];
        final int[] trial = new int[TURNS];
        final int[] best = new int[TURNS];
        int turns;
        int reporters;
        int bestEnd;
        int furthest;
        int remembered;

        Roster() {
            for (int k = 0; k < REPORTERS; k++) {
                speed[k] = 1;
            }
        }

        void setReporter(int k, int speedOfReporter, int cantTake) {
            if (k >= 0 && k < REPORTERS) {
                speed[k] = speedOfReporter;
                cant[k] = cantTake;
            }
        }

        int arrange(int t, int m) {
            turns = Math.min(t, TURNS);
            reporters = Math.min(m, REPORTERS);
            bestEnd = NO_END;
            furthest = 0;
            for (int k = 0; k < REPORTERS; k++) {
                freeFrom[k] = 0;
            }
            search(0, 0);
            remembered = bestEnd == NO_END ? 0 : turns;
            return bestEnd == NO_END ? -1 - furthest : bestEnd;
        }

        /**
         * Tries the reporters of a turn from the least on, so that of rosters with one end the
         * first is met first; a trial that ends no sooner than the best one goes no further.
         */
        private void search(int turn, int end) {
            furthest = Math.max(furthest, turn);
            if (turn < 0 || turn >= turns || turn >= TURNS) {
                bestEnd = end;
                System.arraycopy(trial, 0, best, 0, TURNS);
                return;
            }
            for (int k = 0; k < reporters; k++) {
                int ends = Math.max(end, turn + speed[k]);
                if (freeFrom[k] <= turn && (cant[k] >> turn & 1) == 0 && ends < bestEnd) {
                    int before = freeFrom[k];
                    freeFrom[k] = turn + speed[k] + 1;
                    trial[turn] = k;
                    search(turn + 1, ends);
                    freeFrom[k] = before;
                }
            }
        }

        int taker(int turn) {
            return turn >= 0 && turn < remembered && turn < TURNS ? best[turn] : NONE;
        }
    }
}
