/**
 * The boundary sentences of part IV of the document's Terms:
 * takes, divisions, the roster, the index.
 */
final class Terms4Test {
    private static final int NONE = SaidRecord.NONE;

    public static void main(String[] args) throws ReflectiveOperationException {
        Named.runAll(Terms4Test.class, "terms4_");
    }

    private static void due(String call, long got, long want) {
        Named.due(call, got, want);
    }

    // ---- takes

    /** Rows of k words with no word twice, which differ in so many places. */
    private static SaidRecord differing(int k, int places) {
        SaidRecord x = new SaidRecord();
        for (int i = 0; i < k; i++) {
            x.take(0, 100 + i);
            x.take(1, i < places ? 200 + i : 100 + i);
        }
        return x;
    }

    static void terms4_joinedDifferInAThirdAtMost() {
        for (int k = 1; k <= 12; k++) {
            int third = k / 3;
            due(k + " words, " + third + " differ", differing(k, third).join(), k);
            due(k + " words, one more", differing(k, third + 1).join(), 0);
            due(k + " words, none", differing(k, 0).join(), k);
        }
    }

    static void terms4_joinedTheGreatest() {
        SaidRecord x = new SaidRecord();
        House.takeAll(x, new int[] {1, 1, 1, 1}, new int[] {1, 1, 1, 1, 1, 1}, new int[] {});
        due("all of FIRST", x.join(), 4);
        House.takeAll(x, new int[] {1, 2, 1, 2}, new int[] {1, 2, 3}, new int[] {});
        due("3 differ", x.join(), 2);
        House.takeAll(x, new int[] {4, 1, 9, 3}, new int[] {1, 2, 3, 9, 3}, new int[] {});
        due("3 with one that differs", x.join(), 3);
        House.takeAll(x, new int[] {1, 2, 3}, new int[] {1}, new int[] {});
        due("the last of FIRST, not its first", x.join(), 0);
        House.takeAll(x, new int[] {3}, new int[] {1, 2, 3}, new int[] {});
        due("the first of SECOND, not its last", x.join(), 0);
        House.takeAll(x, new int[] {1, 2, 3}, new int[] {3}, new int[] {});
        due("one", x.join(), 1);
        House.takeAll(x, new int[] {1, 2, 3}, new int[] {1, 2}, new int[] {});
        due("no more than SECOND has", x.join(), 0);
        House.takeAll(x, new int[] {2, 3}, new int[] {1, 2, 3}, new int[] {});
        due("no more than FIRST has", x.join(), 0);
    }

    static void terms4_theTapeSaysWhichOfTwo() {
        int[] first = {1, 2, 3};
        int[] second = {1, 9, 3, 4};
        int[][] tapes = {{}, {9}, {2}, {2, 9}, {9, 2, 9}, {2, 9, 2}, {9, 9, 2, 2},
                {9, 9, 9, 9, 9, 9, 9, 2, 2, 2, 2, 2}, {9, 9, 9, 9, 9, 9, 2, 2, 2, 2, 2, 2},
                {0, 0, 9}, {1, 3}};
        int[] want = {2, 9, 2, 2, 9, 2, 2, 9, 2, 9, 2};
        for (int i = 0; i < tapes.length; i++) {
            SaidRecord x = new SaidRecord();
            House.takeAll(x, first, second, tapes[i]);
            due("tape " + i, x.joined(1), want[i]);
            due("where they agree", x.joined(0), 1);
            due("where they agree", x.joined(2), 3);
            due("behind", x.joined(3), 4);
            due("no more", x.joined(4), NONE);
        }
    }

    static void terms4_theTapeSaysBehindTheBeginningOfFirst() {
        SaidRecord x = new SaidRecord();
        House.takeAll(x, new int[] {1, 2, 3, 4, 5, 6, 7, 8}, new int[] {3, 24, 5, 26, 7, 8, 9},
                new int[] {24, 24, 4, 6, 26});
        int[] want = {1, 2, 3, 24, 5, 6, 7, 8, 9, NONE};
        due("join()", x.join(), 6);
        for (int i = 0; i < want.length; i++) {
            due("joined(" + i + ")", x.joined(i), want[i]);
        }
    }

    static void terms4_theTapeSaysOnlyWhereTheKDiffer() {
        SaidRecord x = new SaidRecord();
        House.takeAll(x, new int[] {1, 2}, new int[] {3, 4}, new int[] {3, 3, 4, 4});
        int[] want = {1, 2, 3, 4, NONE};
        for (int i = 0; i < want.length; i++) {
            due("joined(" + i + ")", x.joined(i), want[i]);
        }
    }

    static void terms4_joinIsFirstAndWhatIsBehindInSecond() {
        SaidRecord x = new SaidRecord();
        House.takeAll(x, new int[] {5, 6, 7}, new int[] {6, 7}, new int[] {});
        int[] want = {5, 6, 7, NONE};
        for (int i = 0; i < want.length; i++) {
            due("nothing behind " + i, x.joined(i), want[i]);
        }
        House.takeAll(x, new int[] {}, new int[] {6, 7}, new int[] {});
        due("without FIRST", x.joined(0), 6);
        due("without FIRST", x.joined(1), 7);
        due("without FIRST", x.joined(2), NONE);
        House.takeAll(x, new int[] {6, 7}, new int[] {}, new int[] {});
        due("without SECOND", x.joined(1), 7);
        due("without SECOND", x.joined(2), NONE);
    }

    private static void apart(int[] one, int[] other, int want) {
        SaidRecord x = new SaidRecord();
        House.takeAll(x, one, other, new int[] {});
        due("apart(0, 1)", x.apart(0, 1), want);
        due("apart(1, 0)", x.apart(1, 0), want);
        due("apart(0, 0)", x.apart(0, 0), 0);
        due("apart(1, 1)", x.apart(1, 1), 0);
        due("from nothing", x.apart(2, 0), one.length);
        due("to nothing", x.apart(1, 2), other.length);
    }

    static void terms4_apart() {
        int[] twelve = {1, 2, 3, 4, 5, 6, 7, 8, 9, 10, 11, 12};
        int[] others = {21, 22, 23, 24, 25, 26, 27, 28, 29, 30, 31, 32};
        int[] turned = {2, 3, 4, 5, 6, 7, 8, 9, 10, 11, 12, 1};
        apart(new int[] {}, new int[] {}, 0);
        apart(new int[] {}, twelve, 12);
        apart(twelve, twelve, 0);
        apart(twelve, others, 12);
        apart(twelve, turned, 2);
        apart(new int[] {1}, new int[] {2}, 1);
        apart(new int[] {1, 2}, new int[] {2, 1}, 2);
        apart(new int[] {1, 2, 3}, new int[] {1, 3}, 1);
        apart(new int[] {1, 3}, new int[] {1, 2, 3}, 1);
        apart(new int[] {1, 2, 3}, new int[] {4, 1, 2, 3}, 1);
        apart(new int[] {1, 2, 3, 4}, new int[] {1, 9, 3}, 2);
        apart(new int[] {12}, twelve, 11);
        apart(new int[] {13}, twelve, 12);
    }

    static void terms4_apartOfAWord0() {
        SaidRecord x = new SaidRecord();
        House.takeAll(x, new int[] {1}, new int[] {}, new int[] {0, 1});
        due("0 is a word of the TAPE", x.apart(0, 2), 1);
        due("as any other", x.apart(1, 2), 2);
    }

    // ---- divisions

    static void terms4_countsOnOneSideAlone() {
        SaidRecord x = new SaidRecord();
        x.vote(0, 0, 0, 0);
        x.vote(0, 0, 0, 1);
        x.vote(0, 0, 0, 0);
        due("one member once", x.sum(0, 0, 3), 1);
        x.vote(0, 0, 1, 1);
        due("on both", x.sum(0, 0, 4), 0);
        due("on both", x.sum(0, 1, 4), 0);
        due("double", x.doubles(0, 4), 1);
        x.vote(0, 0, 0, 0);
        due("for good", x.sum(0, 0, 5), 0);
        due("another division", x.doubles(1, 5), 0);
    }

    static void terms4_doubleByOneTellerToo() {
        SaidRecord x = new SaidRecord();
        x.vote(0, 7, 0, 0);
        x.vote(0, 7, 1, 0);
        due("one teller", x.doubles(0, 2), 128);
        x.vote(0, 6, 1, 0);
        x.vote(0, 6, 0, 1);
        due("two tellers", x.doubles(0, 4), 192);
    }

    static void terms4_carriedIfMoreAreAyes() {
        SaidRecord x = new SaidRecord();
        int[][] votes = {{0, 1}, {1, 0}, {2, 0}, {3, 1}, {4, 0}, {2, 1}, {3, 0}, {4, 1}};
        int[] want = {-2, -2, 2, 3, 4, 5, 6, 7};
        for (int i = 0; i < votes.length; i++) {
            x.vote(0, votes[i][0], votes[i][1], 0);
            due("moved by " + (i + 1), x.moved(0, i + 1), want[i]);
        }
        x.vote(0, 4, 0, 1);
        due("nothing changed", x.moved(0, 9), 7);
        x.vote(1, 4, 0, 1);
        due("another division", x.moved(0, 10), 7);
        due("of that", x.moved(1, 10), 9);
    }

    // ---- the roster

    private static void roster(SaidRecord x, int t, int m, int end, int... takers) {
        due("roster(" + t + ", " + m + ")", x.roster(t, m), end);
        for (int k = 0; k < takers.length; k++) {
            due("turn(" + k + ")", x.turn(k), takers[k]);
        }
        due("turn(" + takers.length + ")", x.turn(takers.length), NONE);
        due("turn(-1)", x.turn(-1), NONE);
    }

    private static SaidRecord reporters(int... speedsAndCants) {
        SaidRecord x = new SaidRecord();
        for (int k = 0; k < speedsAndCants.length / 2; k++) {
            x.reporter(k, speedsAndCants[2 * k], speedsAndCants[2 * k + 1]);
        }
        return x;
    }

    static void terms4_rosterAtFirst() {
        for (int m = 2; m <= 4; m++) {
            roster(new SaidRecord(), 8, m, 8, 0, 1, 0, 1, 0, 1, 0, 1);
        }
        roster(new SaidRecord(), 1, 1, 1, 0);
        roster(new SaidRecord(), 2, 1, -2);
        roster(new SaidRecord(), 8, 1, -2);
    }

    /** Reporter 0 takes turn 0 and is free again behind the turns it writes in. */
    static void terms4_rosterWritesInTheSpeedTurnsBehind() {
        for (int speed = 1; speed <= 6; speed++) {
            // Nobody else can take turn 0 or the turn asked; all others the two others can.
            for (int turn = speed; turn <= speed + 1; turn++) {
                int asked = 1 | 1 << turn;
                SaidRecord x = reporters(speed, 255 ^ asked, 1, asked, 1, asked);
                if (turn == speed) {
                    due("writing still", x.roster(turn + 1, 3), -1 - turn);
                } else {
                    due("free again", x.roster(turn + 1, 3), turn + speed);
                    due("turn(0)", x.turn(0), 0);
                    due("turn(" + turn + ")", x.turn(turn), 0);
                }
            }
        }
    }

    static void terms4_rosterEndIsTurnAndSpeed() {
        for (int speed = 1; speed <= 6; speed++) {
            roster(reporters(speed, 0), 1, 1, speed, 0);
            roster(reporters(6, 0, speed, 1), 2, 2, Math.max(6, 1 + speed), 0, 1);
        }
        int[] speeds = {6, 254, 1, 1, 1, 1};
        roster(reporters(speeds), 8, 3, 8, 0, 1, 2, 1, 2, 1, 2, 1);
    }

    static void terms4_rosterCantTake() {
        for (int turn = 0; turn < 8; turn++) {
            SaidRecord x = reporters(1, 255 ^ 1 << turn, 1, 1 << turn, 1, 1 << turn, 1, 255);
            due("roster", x.roster(8, 4), 8);
            for (int k = 0; k < 8; k++) {
                due("turn " + turn + " alone", x.turn(k) == 0 ? 1 : 0, k == turn ? 1 : 0);
            }
        }
    }

    static void terms4_rosterTheLeastEnd() {
        roster(reporters(3, 0, 1, 0), 2, 2, 3, 0, 1);
        roster(reporters(2, 0, 1, 0), 1, 2, 1, 1);
        roster(reporters(6, 0, 5, 0, 4, 0, 3, 0), 4, 4, 6, 0, 1, 2, 3);
        roster(reporters(3, 0, 4, 0, 5, 0, 6, 0), 4, 4, 6, 3, 2, 1, 0);
        roster(reporters(1, 0, 6, 0), 2, 2, 6, 1, 0);
    }

    static void terms4_rosterTheFirstOfThese() {
        roster(reporters(1, 0, 1, 0, 1, 0), 3, 3, 3, 0, 1, 0);
        roster(reporters(2, 0, 2, 0, 2, 0, 2, 0), 5, 4, 6, 0, 1, 2, 0, 1);
        roster(reporters(1, 1, 1, 0, 1, 0), 2, 3, 2, 1, 0);
        roster(reporters(2, 0, 1, 0, 1, 0), 2, 3, 2, 0, 1);
    }

    static void terms4_rosterHowManyThereCanBe() {
        roster(reporters(1, 255), 1, 1, -1);
        roster(reporters(1, 255, 1, 0), 8, 2, -2);
        roster(reporters(2, 0, 2, 0), 8, 2, -3);
        roster(reporters(3, 0, 3, 0, 3, 0), 8, 3, -4);
        roster(reporters(6, 0, 6, 0, 6, 0, 6, 0), 8, 4, -5);
        roster(reporters(6, 0, 6, 0, 6, 0, 6, 0), 4, 4, 9, 0, 1, 2, 3);
        roster(reporters(1, 128, 1, 128, 1, 128, 1, 128), 8, 4, -8);
        roster(reporters(1, 128, 1, 128, 1, 128, 1, 128), 7, 4, 7, 0, 1, 0, 1, 0, 1, 0);
    }

    /** Who is not among the m reporters takes no turn. */
    static void terms4_rosterOfTheFirstMReporters() {
        SaidRecord x = reporters(6, 0, 1, 0, 1, 0, 1, 0);
        roster(x, 1, 1, 6, 0);
        roster(x, 1, 2, 1, 1);
        SaidRecord y = reporters(1, 255, 1, 255, 1, 255, 1, 0);
        roster(y, 1, 3, -1);
        roster(y, 1, 4, 1, 3);
    }

    // ---- the index

    static void terms4_renamesFromTheirDayOn() {
        SaidRecord x = new SaidRecord();
        x.line(3, 0, 0, 0, 7);
        x.rename(7, 8, 5);
        due("the day ahead", x.same(7, 8, 4, 2), 0);
        due("that day", x.same(7, 8, 5, 2), 1);
        due("the day behind", x.same(8, 7, 6, 2), 1);
        due("not known", x.same(7, 8, 5, 1), 0);
        due("named the day ahead", x.names(8, 4, 2), 0);
        due("named that day", x.names(8, 5, 2), 1);
        due("not known", x.names(8, 5, 1), 0);
    }

    static void terms4_renamesThroughOthers() {
        SaidRecord x = new SaidRecord();
        x.rename(3, 4, 1);
        x.rename(1, 2, 0);
        x.rename(4, 1, 2);
        due("on 1", x.same(2, 3, 1, 3), 0);
        due("on 2", x.same(2, 3, 2, 3), 1);
        due("on 2", x.same(3, 2, 2, 3), 1);
        due("known by 2", x.same(2, 3, 2, 2), 0);
        due("apart from others", x.same(2, 5, 2, 3), 0);
    }

    static void terms4_namedByLinesNotBehindD() {
        SaidRecord x = new SaidRecord();
        x.line(5, 0, 0, 0, 7);
        x.line(6, 0, 0, 0, 7);
        due("on 4", x.names(7, 4, 2), 0);
        due("on 5", x.names(7, 5, 2), 1);
        due("on 6", x.names(7, 6, 2), 2);
        due("known by 1", x.names(7, 6, 1), 1);
        due("known by 0", x.names(7, 6, 0), 0);
    }

    static void terms4_namedByWhatStandsInThePrint() {
        SaidRecord x = Named.with("right r to 0 if word==9;mend m if 1<2;leave l if word==8;");
        x.line(5, 0, 0, 0, 7);
        x.line(5, 0, 3, 0, 0);
        x.line(5, 0, 0, 0, 9);
        x.line(5, 0, 0, 0, 8);
        x.fact(0, 0, 6, 6);
        x.fact(2, 0, 0, 7);
        due("as taken", x.names(7, 5, 6), 1);
        due("as mended", x.names(6, 6, 6), 1);
        due("not as taken", x.names(7, 6, 6), 0);
        due("not when struck", x.names(6, 7, 6), 0);
        due("put right to 0", x.names(9, 5, 6), 0);
        due("left out", x.names(8, 5, 6), 0);
        due("it is in no print", x.lines(5, 5, 6), 3);
    }

    static void terms4_namedByDaysThenAsTheyStand() {
        SaidRecord x = new SaidRecord();
        x.line(6, 0, 0, 0, 7);
        x.line(5, 9, 0, 0, 7);
        x.line(5, 8, 0, 0, 7);
        x.line(0, 239, 0, 0, 7);
        x.line(5, 8, 0, 0, 7);
        int[] want = {3, 2, 4, 1, 0, NONE};
        for (int i = 0; i < want.length; i++) {
            due("found " + i, x.found(7, 6, 5, i), want[i]);
        }
    }
}
