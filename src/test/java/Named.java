import java.lang.reflect.Method;
import java.util.Arrays;
import java.util.Comparator;
import java.util.List;
import java.util.function.Supplier;

/**
 * Tests of which each bears in its name the promise, or the part of the document's Terms, of whose
 * sentence it is; with what they all need to ask for refused calls and for bounds.
 */
final class Named {
    interface Call {
        int on(SaidRecord x);
    }

    interface CallOf {
        int on(SaidRecord x, int value);
    }

    static final Check CHECK = new Check();

    private Named() {
    }

    /** Runs all methods of a class whose names begin so, by their names. */
    static void runAll(Class<?> tests, String beginning) throws ReflectiveOperationException {
        Method[] methods = tests.getDeclaredMethods();
        Arrays.sort(methods, Comparator.comparing(Method::getName));
        int run = 0;
        for (Method method : methods) {
            if (method.getName().startsWith(beginning)) {
                CHECK.part(method.getName());
                method.setAccessible(true);
                method.invoke(null);
                run++;
            }
        }
        CHECK.part(tests.getSimpleName());
        CHECK.due("there are tests", run > 0, true);
        System.out.println(run + " tests of " + tests.getSimpleName());
        CHECK.end();
    }

    static void due(String call, long got, long want) {
        CHECK.due(call, got, want);
    }

    /** Two objects, of which all later calls answer the same. */
    static void alike(String call, SaidRecord x, SaidRecord twin) {
        List<String> got = House.answers(x);
        List<String> want = House.answers(twin);
        due(call + ": later answers", got.size(), want.size());
        for (int i = 0; i < got.size() && i < want.size(); i++) {
            if (!got.get(i).equals(want.get(i))) {
                due(call + ": later " + got.get(i) + ", but " + want.get(i) + " without", 1, 0);
            }
        }
    }

    /** A call that is refused with an answer, and behind which all is as if it was not made. */
    static void refused(String call, Supplier<SaidRecord> house, Call refused, int answer) {
        SaidRecord x = house.get();
        due(call, refused.on(x), answer);
        alike(call, x, house.get());
    }

    /** In a house the least and the most value are taken, those beyond are refused with NONE. */
    static void bounds(String value, int least, int wantLeast, int most, int wantMost,
            CallOf call) {
        due(value + " " + least, call.on(House.told(), least), wantLeast);
        due(value + " " + most, call.on(House.told(), most), wantMost);
        for (int wrong : new int[] {least - 1, most + 1, Integer.MIN_VALUE, Integer.MAX_VALUE}) {
            refused(value + " " + wrong, House::told, x -> call.on(x, wrong), SaidRecord.NONE);
        }
    }

    /** Bounds of a value of a call that tells a fact: the next number is answered. */
    static void tells(String value, int least, int most, CallOf call) {
        bounds(value, least, House.FACTS, most, House.FACTS, call);
    }

    /** In a house with 180 facts a call that tells one is refused. */
    static void refusedWhenFull(String call, Call tells) {
        refused(call, House::full, tells, SaidRecord.NONE);
    }

    /** A new object that has read a text without a fault. */
    static SaidRecord with(String text) {
        SaidRecord x = new SaidRecord();
        due("read of " + text, Check.read(x, text), 0);
        return x;
    }

    /** A text on a new object: its fault (0: none) and the place of that. */
    static void fault(String text, int fault, int place) {
        SaidRecord x = new SaidRecord();
        due("read of \"" + text + "\"", Check.read(x, text), fault);
        due("place of \"" + text + "\"", x.place(), place);
        due("texts behind \"" + text + "\"", x.count(1), fault == 0 ? 1 : 0);
        due("tape behind \"" + text + "\"", x.count(2), 0);
    }

    static void whole(String text) {
        fault(text, 0, SaidRecord.NONE);
    }

    /** Whether a condition holds for a line of word 50. */
    static void holds(String condition, boolean want) {
        SaidRecord x = with("leave a if " + condition + ";");
        x.line(3, 20, 0, 0, 50);
        due(condition, x.printed(0, 3, 1, 2), want ? 0 : -2);
    }

    /** To what a right rule puts a line of word 50. */
    static void right(String value, int want) {
        SaidRecord x = with("right a to " + value + ";");
        x.line(3, 20, 0, 0, 50);
        due(value, x.printed(0, 3, 1, 0), want);
        due(value + " by", x.printed(0, 3, 1, 3), 0);
    }
}
