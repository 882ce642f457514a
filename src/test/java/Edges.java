import java.util.ArrayList;
import java.util.LinkedHashMap;
import java.util.LinkedHashSet;
import java.util.List;
import java.util.Map;
import java.util.NoSuchElementException;
import java.util.Set;

/** Runs the tests of the document's sentences, each under its section and its words, and counts what is not as due. */
final class Edges {
    static final Class<?> INDEX = IndexOutOfBoundsException.class;
    static final Class<?> ARGUMENT = IllegalArgumentException.class;
    static final Class<?> STATE = IllegalStateException.class;
    static final Class<?> NOTHING = NoSuchElementException.class;
    static final Class<?> REFUSED = UnsupportedOperationException.class;
    static final Class<?> ARITHMETIC = ArithmeticException.class;

    private static final int MOST_CHANGES = 6;
    private static final int[] SOME_MINUTES = {0, 100, 170, 260, 420, 1440};

    /** Makes the same airport each time, so that two of them can be compared. */
    interface Maker {
        StandAssigner make();
    }

    interface Call {
        Object on(StandAssigner airport);
    }

    interface CallWith {
        Object on(StandAssigner airport, int number);
    }

    interface Test {
        void run(Edges edges);
    }

    private final Set<String> named = new LinkedHashSet<>();
    private String sentence = "";
    private int asked;
    private int wrong;
    private int askedInAll;
    private int wrongSentences;

    // ---- sentences

    void ofPromise(int promise, String words, Test test) {
        of("Promise " + promise, words, test);
    }

    void ofTerms(String words, Test test) {
        of("Terms", words, test);
    }

    void of(String section, String words, Test test) {
        sentence = section + ": " + words;
        asked = 0;
        wrong = 0;
        if (!named.add(sentence)) {
            fail("this sentence has a test already");
        }
        try {
            test.run(this);
        } catch (RuntimeException thrown) {
            fail("the test ended by " + thrown + " at " + thrown.getStackTrace()[0]);
        }
        if (asked == 0) {
            fail("nothing was asked");
        }
        askedInAll += asked;
        wrongSentences += wrong == 0 ? 0 : 1;
        System.out.println((wrong == 0 ? "  ok " : "  NOT AS DUE ") + sentence + " [" + asked + " answers]");
    }

    /** Every sentence of the document has a test or is known to name no edge, and no other is named. */
    void compareWith(List<String> document, List<String> withoutEdge) {
        for (String words : document) {
            if (named.contains(words) == withoutEdge.contains(words)) {
                wrongSentences++;
                System.out.println("  NEITHER TESTED NOR WITHOUT EDGE, OR BOTH: " + words);
            }
        }
        List<String> known = new ArrayList<>(named);
        known.addAll(withoutEdge);
        for (String words : known) {
            if (!document.contains(words)) {
                wrongSentences++;
                System.out.println("  NOT IN THE DOCUMENT: " + words);
            }
        }
    }

    void end(String test) {
        System.out.println(test + ": " + named.size() + " sentences, " + askedInAll + " answers, "
            + wrongSentences + " sentences not as due");
        if (wrongSentences != 0 || named.isEmpty()) {
            System.exit(1);
        }
    }

    // ---- answers

    void is(String what, Object want, Object got) {
        asked++;
        if (!want.equals(got)) {
            fail(what + " answered " + got + ", due is " + want);
        }
    }

    void throwing(String what, Class<?> want, StandAssigner airport, Call call) {
        is(what, want.getName(), outcome(airport, call));
    }

    /** The call throws, and but for what is excepted everything is as if it had not been called. */
    void refused(String what, Class<?> want, Maker maker, Call call, String... excepted) {
        throwing(what, want, maker.make(), call);
        same(what, maker, () -> called(maker, call), excepted);
    }

    /** The call answers, and everything is as if it had not been called. */
    void onlyAsks(String what, Maker maker, Call call) {
        is(what + " answers", false, outcome(maker.make(), call).endsWith("Exception"));
        same(what, maker, () -> called(maker, call));
    }

    /** The numbers low and high are in; those beside them and the farthest ones are out, and change nothing. */
    void range(String what, int low, int high, Class<?> want, Maker maker, CallWith call) {
        for (int number : new int[] {low, high}) {
            is(what + " " + number + " is in", false,
                outcome(maker.make(), a -> call.on(a, number)).endsWith("Exception"));
        }
        for (int number : new int[] {low - 1, high + 1, Integer.MIN_VALUE, Integer.MAX_VALUE}) {
            refused(what + " " + number, want, maker, a -> call.on(a, number));
        }
    }

    /** All that can be seen of two airports is the same, but for what is excepted. */
    void same(String what, Maker one, Maker other, String... excepted) {
        Map<String, String> want = everythingOf(one);
        Map<String, String> got = everythingOf(other);
        for (String part : excepted) {
            if (want.remove(part) == null) {
                fail("there is no part " + part);
            }
            got.remove(part);
        }
        for (Map.Entry<String, String> part : want.entrySet()) {
            is(what + ", " + part.getKey(), part.getValue(), got.get(part.getKey()));
        }
    }

    private void fail(String why) {
        wrong++;
        if (wrong <= 10) {
            System.out.println(sentence + ": " + why);
        }
    }

    static String outcome(StandAssigner airport, Call call) {
        try {
            return String.valueOf(call.on(airport));
        } catch (RuntimeException thrown) {
            return thrown.getClass().getName();
        }
    }

    /** An airport on which a call was made, whether it threw or not. */
    static StandAssigner called(Maker maker, Call call) {
        StandAssigner airport = maker.make();
        outcome(airport, call);
        return airport;
    }

    // ---- all that can be seen of an airport; what a look would change is looked at on one more of its kind

    private static Map<String, String> everythingOf(Maker maker) {
        Map<String, String> everything = new LinkedHashMap<>();
        everything.put("answers", answersOf(maker.make()));
        everything.put("buffer", outcome(maker.make(), a -> a.setBuffer(0)));
        everything.put("reason", outcome(maker.make(), StandAssigner::reason));
        everything.put("error position", outcome(maker.make(), StandAssigner::errorPosition));
        everything.put("input", inputOf(maker));
        everything.put("changes", changesOf(maker));
        everything.put("saved", savedOf(maker));
        return everything;
    }

    private static String inputOf(Maker maker) {
        StandAssigner read = maker.make();
        return outcome(maker.make(), a -> a.append('~')) + " " + outcome(read, StandAssigner::read) + " "
            + outcome(read, StandAssigner::errorPosition);
    }

    private static String changesOf(Maker maker) {
        StringBuilder changes = new StringBuilder();
        for (int undone = 1; undone <= MOST_CHANGES + 1; undone++) {
            int times = undone;
            changes.append(outcome(undone(maker, times - 1), StandAssigner::undo)).append(' ')
                .append(answersOf(undone(maker, times))).append(' ')
                .append(outcome(undone(maker, times), a -> a.setBuffer(0))).append('\n');
        }
        return changes.toString();
    }

    private static StandAssigner undone(Maker maker, int times) {
        StandAssigner airport = maker.make();
        for (int time = 0; time < times; time++) {
            outcome(airport, StandAssigner::undo);
        }
        return airport;
    }

    private static String savedOf(Maker maker) {
        Maker restored = () -> called(maker, StandAssigner::restore);
        return outcome(maker.make(), StandAssigner::restore) + " " + answersOf(restored.make()) + " "
            + outcome(restored.make(), a -> a.setBuffer(0));
    }

    /** What an airport answers to questions: fewer than 400 calls, so that there are some left to make it. */
    static String answersOf(StandAssigner airport) {
        List<String> answers = new ArrayList<>();
        for (int account = 0; account <= 10; account++) {
            int asked = account;
            answers.add(outcome(airport, a -> a.account(asked)));
        }
        answers.add(outcome(airport, StandAssigner::conflicts));
        answers.add(outcome(airport, StandAssigner::minutes));
        answers.add(outcome(airport, a -> a.peak(false)));
        answers.add(outcome(airport, a -> a.peak(true)));
        answers.add(outcome(airport, StandAssigner::meanCost));
        answers.add(outcome(airport, StandAssigner::leastMoves));
        answers.add(outcome(airport, StandAssigner::leastAgain));
        for (int move = 0; move < 3; move++) {
            int asked = move;
            answers.add(outcome(airport, a -> a.moveOf(asked, false)));
            answers.add(outcome(airport, a -> a.moveOf(asked, true)));
        }
        for (int stand = 0; stand < 8; stand++) {
            answersOfStand(airport, stand, answers);
        }
        for (int turn = 0; turn < 10; turn++) {
            answersOfTurn(airport, turn, answers);
        }
        return answers.toString();
    }

    private static void answersOfStand(StandAssigner airport, int stand, List<String> answers) {
        answers.add(outcome(airport, a -> a.stand(stand, 0)));
        if (answers.get(answers.size() - 1).equals(INDEX.getName())) {
            return;
        }
        for (int what = 1; what <= 6; what++) {
            int asked = what;
            answers.add(outcome(airport, a -> a.stand(stand, asked)));
        }
        for (int minute : SOME_MINUTES) {
            answers.add(outcome(airport, a -> a.gap(stand, minute)));
        }
    }

    private static void answersOfTurn(StandAssigner airport, int turn, List<String> answers) {
        answers.add(outcome(airport, a -> a.turn(turn, 0)));
        if (answers.get(answers.size() - 1).equals(INDEX.getName())) {
            return;
        }
        for (int what = 1; what <= 5; what++) {
            int asked = what;
            answers.add(outcome(airport, a -> a.turn(turn, asked)));
        }
        for (int stay = 0; stay <= 1; stay++) {
            int number = stay;
            answers.add(outcome(airport, a -> a.options(turn, number)));
            for (int what = 0; what <= 5; what++) {
                int asked = what;
                answers.add(outcome(airport, a -> a.ofStay(turn, number, asked)));
            }
        }
    }
}
