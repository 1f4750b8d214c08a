import java.util.ArrayList;
import java.util.List;

/**
 * The calls on one object, kept so that the same state can be made again. A call that is refused is made on one of two
 * such objects, and both are then asked for all that can be seen: they must not differ.
 */
final class Run {
    /* What calls behind the 512th answer is free, so no test may look at it. */
    private static final int MOST_CALLS = 512;

    private final VoucherHall hall = new VoucherHall();
    private final List<String> history = new ArrayList<>();

    Run(String... calls) {
        does(calls);
    }

    int ask(String call) {
        history.add(call);
        if (history.size() > MOST_CALLS) {
            throw new IllegalStateException("more than 512 calls");
        }
        return Face.call(hall, call);
    }

    /** Calls that bring a state about: none of them is refused. */
    Run does(String... calls) {
        for (String call : calls) {
            int answer = ask(call);
            if (answer < 0) {
                Due.holds(call + " of a state answered " + answer, false);
            }
        }
        return this;
    }

    Run times(int many, String call) {
        for (int i = 0; i < many; i++) {
            does(call);
        }
        return this;
    }

    Run due(String call, int want) {
        Due.due(call, ask(call), want);
        return this;
    }

    /** The call is taken: it answers no refusal. */
    Run taken(String call) {
        int answer = ask(call);
        Due.holds(call + " is taken, and answered " + answer, answer > VoucherHall.BAD || answer == VoucherHall.NONE);
        return this;
    }

    /** The call is refused so, and changes nothing. */
    Run refused(String call, int want) {
        return like(call, want);
    }

    /** The call answers this and leaves what the other calls would leave. */
    Run like(String call, int want, String... others) {
        for (View view : View.ALL) {
            Run one = again();
            Run other = again();
            Due.due(call, one.ask(call), want);
            other.does(others);
            for (String question : view.questions) {
                Due.due(question + " behind " + call, one.ask(question), other.ask(question));
            }
        }
        return due(call, want);
    }

    /** Another object with the same calls behind it. */
    Run again() {
        Run twin = new Run();
        for (String call : history) {
            twin.ask(call);
        }
        return twin;
    }

    /** Puts a text on the tape, which is empty. */
    Run text(String text) {
        for (int at = 0; at < text.length(); at += 12) {
            ask("feed " + Hall.four(text, at) + " " + Hall.four(text, at + 4) + " " + Hall.four(text, at + 8));
        }
        return does("trim " + text.length());
    }

    Run law(int land, String text) {
        return text(text).does("law " + land);
    }
}
