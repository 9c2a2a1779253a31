import java.util.ArrayList;
import java.util.List;
import java.util.NoSuchElementException;

/** What boundary tests share: each quotes its sentence of the document and begins with a larder of its own. */
abstract class Boundaries {
    interface Test {
        void run(LarderPatrol x);
    }

    record Quote(String place, String sentence) {
    }

    static final Class<IndexOutOfBoundsException> INDEX = IndexOutOfBoundsException.class;
    static final Class<IllegalArgumentException> ARGUMENT = IllegalArgumentException.class;
    static final Class<UnsupportedOperationException> DENIED = UnsupportedOperationException.class;
    static final Class<NoSuchElementException> NO_ELEMENT = NoSuchElementException.class;
    static final Class<IllegalStateException> STATE = IllegalStateException.class;
    static final Class<ArithmeticException> ARITHMETIC = ArithmeticException.class;
    static final int LEAST = Integer.MIN_VALUE;
    static final int MOST = Integer.MAX_VALUE;
    static final String TERMS = "Terms";

    private static final List<Quote> QUOTES = new ArrayList<>();
    private static String current = "";

    static List<Quote> quotes() {
        return QUOTES;
    }

    static void promise(int number, String sentence, Test test) {
        test("Promise " + number, sentence, test);
    }

    static void term(String sentence, Test test) {
        test(TERMS, sentence, test);
    }

    private static void test(String place, String sentence, Test test) {
        QUOTES.add(new Quote(place, sentence));
        current = place + ", \"" + sentence + "\", ";
        int before = Checks.passed() + Checks.failed();
        try {
            test.run(new LarderPatrol());
        } catch (RuntimeException thrown) {
            dueText("the whole test", "no exception", thrown.toString());
        }
        dueTrue("something is compared", Checks.passed() + Checks.failed() > before);
    }

    static void due(String what, long want, Checks.Answer call) {
        Checks.due(current + what, want, call);
    }

    static void dueTrue(String what, boolean held) {
        Checks.dueTrue(current + what, held);
    }

    static void dueDouble(String what, double want, double got) {
        Checks.dueDouble(current + what, want, got);
    }

    static void dueText(String what, String want, String got) {
        Checks.dueText(current + what, want, got);
    }

    static void dueThrow(String what, Class<? extends RuntimeException> want, Checks.Answer call) {
        Checks.dueThrow(current + what, want, call);
    }

    /** The calls, which are refused, leave all as it was, the latest denial too. */
    static void unchanged(LarderPatrol x, Runnable refusedCalls) {
        String before = picture(x) + Larders.denialOf(x);
        refusedCalls.run();
        dueText("nothing changed", before, picture(x) + Larders.denialOf(x));
    }

    /** The call is denied with this number and detail, has no cause, and leaves all else as it was. */
    static void denied(String what, LarderPatrol x, int number, int detail, Checks.Answer call) {
        String before = picture(x);
        dueThrow(what, DENIED, call);
        dueText(what + ": the denial", number + " " + detail + " throws.NoSuchElementException", Larders.denialOf(x));
        dueText(what + ": nothing changed", before, picture(x));
    }

    /** All that an object tells but its latest denial, by calls that change nothing. */
    static String picture(LarderPatrol x) {
        StringBuilder all = new StringBuilder();
        for (int shelf = 0; shelf < x.shelfCount(); shelf++) {
            all.append(x.cheese(shelf)).append(x.isBlind(shelf) ? 'b' : '.').append(x.neighbourCount(shelf));
            all.append('m').append(x.miceOn(shelf)).append(' ');
        }
        for (int stop = 0; stop < x.stopCount(); stop++) {
            all.append(x.shelfOfStop(stop)).append(' ');
        }
        for (int mouse = 0; mouse < x.mouseCount(); mouse++) {
            all.append(x.mouseShelf(mouse)).append('/').append(x.mouseEaten(mouse)).append('/');
            all.append(x.mouseHunger(mouse)).append(' ');
        }
        Checks.Answer[] others = {x::passageCount, x::groupCount, x::catShelf, x::goal, x::nextShelf, x::lapLength, x::seed,
            x::minute, x::totalCheeseByAccounts, x::eaten, x::caught, x::gone, x::rinds, () -> x.predictCaught(60),
            x::undoCount, x::faultPosition, () -> x.lineCharacter(0)};
        for (Checks.Answer other : others) {
            all.append(Checks.answerOf(other)).append(' ');
        }
        return all.toString();
    }
}
