/** Boundary cases of promises 49 to 51. */
final class DenialBoundaries extends Boundaries {
    private DenialBoundaries() {
    }

    static void run() {
        promise49();
        promise50();
        promise51();
    }

    /** Two shelves with one passage; shelf 1 is blind. */
    private static void prepare(LarderPatrol x) {
        Larders.addShelves(x, 99, 0);
        x.link(0, 1);
        x.setBlind(1, true);
    }

    private static void promise49() {
        promise(49, "Returns the number, 1 to 6.", x -> {
            prepare(x);
            dueThrow("a limit", DENIED, () -> x.fill(0, 1));
            due("the least", 1, x::denial);
            dueThrow("the same shelf", DENIED, () -> x.link(1, 1));
            due("two", 2, x::denial);
            dueThrow("connected", DENIED, () -> x.link(1, 0));
            due("three", 3, x::denial);
            dueThrow("not connected", DENIED, () -> x.unlink(1, 1));
            due("four", 4, x::denial);
            dueThrow("the present value", DENIED, () -> x.setBlind(0, false));
            due("five", 5, x::denial);
            dueThrow("a text", DENIED, () -> Larders.execute(x, "wait 61"));
            due("six, and never seven", 6, x::denial);
        });
        promise(49, "Throws `NoSuchElementException` if nothing was denied yet", x -> {
            dueThrow("a new object", NO_ELEMENT, x::denial);
            prepare(x);
            dueThrow("after changes", NO_ELEMENT, x::denial);
            dueThrow("a value out of range", ARGUMENT, () -> x.fill(0, 100));
            dueThrow("an index", INDEX, () -> x.link(2, 2));
            dueThrow("a fault in a text", ARGUMENT, () -> Larders.execute(x, "show 1;show 1;"));
            dueThrow("none of these is a denial", NO_ELEMENT, x::denial);
            dueThrow("one that is", DENIED, () -> x.fill(0, 1));
            due("denied", 1, x::denial);
        });
    }

    private static void promise50() {
        promise(50, "Returns the detail.", x -> {
            prepare(x);
            dueThrow("a limit", DENIED, () -> x.fill(0, 99));
            due("the limit", 99, x::denialDetail);
            dueThrow("shelf 0", DENIED, () -> x.link(0, 0));
            due("the least index", 0, x::denialDetail);
            dueThrow("the last shelf", DENIED, () -> x.link(1, 1));
            due("the largest index", 1, x::denialDetail);
            x.unlink(0, 1);
            dueThrow("no passages", DENIED, () -> x.unlink(0, 1));
            due("none", 0, x::denialDetail);
        });
        promise(50, "Throws `NoSuchElementException` if nothing was denied yet", x -> {
            dueThrow("a new object", NO_ELEMENT, x::denialDetail);
            prepare(x);
            dueThrow("a value out of range", ARGUMENT, () -> x.setRate(17));
            dueThrow("an index", INDEX, () -> x.addStop(2));
            dueThrow("none of these is a denial", NO_ELEMENT, x::denialDetail);
            dueThrow("one that is", DENIED, () -> x.setBlind(1, true));
            due("its detail", 1, x::denialDetail);
        });
    }

    private static void dueCause(LarderPatrol x, int cause, String text) {
        dueThrow(text, DENIED, () -> Larders.execute(x, text));
        due("the cause of " + text, cause, x::denialCause);
    }

    private static void promise51() {
        promise(51, "Returns the number, 1 to 5 or 7.", x -> {
            prepare(x);
            dueCause(x, 1, "fill 0 1");
            dueCause(x, 2, "link 1-1");
            dueCause(x, 3, "link 1-0");
            dueCause(x, 4, "cut 1-1");
            dueCause(x, 5, "hide 1");
            dueCause(x, 7, "hide 2");
            dueCause(x, 7, "rate 17");
        });
        promise(51, "Throws `NoSuchElementException` if nothing was denied yet, or the latest denial has no cause", x -> {
            dueThrow("a new object", NO_ELEMENT, x::denialCause);
            prepare(x);
            dueThrow("a denial", DENIED, () -> x.setBlind(1, true));
            dueThrow("which has no cause", NO_ELEMENT, x::denialCause);
            dueCause(x, 5, "hide 1");
            dueThrow("a value out of range is no denial", ARGUMENT, () -> x.pass(61));
            due("the cause stays", 5, x::denialCause);
            dueThrow("another denial", DENIED, () -> x.link(0, 0));
            dueThrow("has no cause again", NO_ELEMENT, x::denialCause);
        });
    }
}
